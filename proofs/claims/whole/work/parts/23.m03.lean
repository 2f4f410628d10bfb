abbrev M_X11_token : zw_M := (⟨"CutStonesModel", "token", "(IIIJ)V"⟩, prog_13_method_11_code, 6, (Option.none : Option Jvm.ClassFile.FieldType))
theorem d_X11_token_0 : decode M_X11_token.2.1 0 = .ok (.aload_n 0, 1) := by decide +kernel
theorem d_X11_token_1 : decode M_X11_token.2.1 1 = .ok (.getfield 20, 3) := by decide +kernel
theorem d_X11_token_4 : decode M_X11_token.2.1 4 = .ok (.aload_n 0, 1) := by decide +kernel
theorem d_X11_token_5 : decode M_X11_token.2.1 5 = .ok (.getfield 193, 3) := by decide +kernel
theorem d_X11_token_8 : decode M_X11_token.2.1 8 = .ok (.iload_n 1, 1) := by decide +kernel
theorem d_X11_token_9 : decode M_X11_token.2.1 9 = .ok (.iastore, 1) := by decide +kernel
theorem d_X11_token_10 : decode M_X11_token.2.1 10 = .ok (.aload_n 0, 1) := by decide +kernel
theorem d_X11_token_11 : decode M_X11_token.2.1 11 = .ok (.getfield 24, 3) := by decide +kernel
theorem d_X11_token_14 : decode M_X11_token.2.1 14 = .ok (.aload_n 0, 1) := by decide +kernel
theorem d_X11_token_15 : decode M_X11_token.2.1 15 = .ok (.getfield 193, 3) := by decide +kernel
theorem d_X11_token_18 : decode M_X11_token.2.1 18 = .ok (.iload_n 2, 1) := by decide +kernel
theorem d_X11_token_19 : decode M_X11_token.2.1 19 = .ok (.iastore, 1) := by decide +kernel
theorem d_X11_token_20 : decode M_X11_token.2.1 20 = .ok (.aload_n 0, 1) := by decide +kernel
theorem d_X11_token_21 : decode M_X11_token.2.1 21 = .ok (.getfield 27, 3) := by decide +kernel
theorem d_X11_token_24 : decode M_X11_token.2.1 24 = .ok (.aload_n 0, 1) := by decide +kernel
theorem d_X11_token_25 : decode M_X11_token.2.1 25 = .ok (.getfield 193, 3) := by decide +kernel
theorem d_X11_token_28 : decode M_X11_token.2.1 28 = .ok (.iload_n 3, 1) := by decide +kernel
theorem d_X11_token_29 : decode M_X11_token.2.1 29 = .ok (.iastore, 1) := by decide +kernel
theorem d_X11_token_30 : decode M_X11_token.2.1 30 = .ok (.aload_n 0, 1) := by decide +kernel
theorem d_X11_token_31 : decode M_X11_token.2.1 31 = .ok (.getfield 30, 3) := by decide +kernel
theorem d_X11_token_34 : decode M_X11_token.2.1 34 = .ok (.aload_n 0, 1) := by decide +kernel
theorem d_X11_token_35 : decode M_X11_token.2.1 35 = .ok (.getfield 193, 3) := by decide +kernel
theorem d_X11_token_38 : decode M_X11_token.2.1 38 = .ok (.lload 4, 2) := by decide +kernel
theorem d_X11_token_40 : decode M_X11_token.2.1 40 = .ok (.lastore, 1) := by decide +kernel
theorem d_X11_token_41 : decode M_X11_token.2.1 41 = .ok (.aload_n 0, 1) := by decide +kernel
theorem d_X11_token_42 : decode M_X11_token.2.1 42 = .ok (.dup, 1) := by decide +kernel
theorem d_X11_token_43 : decode M_X11_token.2.1 43 = .ok (.getfield 193, 3) := by decide +kernel
theorem d_X11_token_46 : decode M_X11_token.2.1 46 = .ok (.iconst 1, 1) := by decide +kernel
theorem d_X11_token_47 : decode M_X11_token.2.1 47 = .ok (.iadd, 1) := by decide +kernel
theorem d_X11_token_48 : decode M_X11_token.2.1 48 = .ok (.putfield 193, 3) := by decide +kernel
theorem d_X11_token_51 : decode M_X11_token.2.1 51 = .ok (.return_, 1) := by decide +kernel
theorem ce_X11_token : zw_CeV M_X11_token 4 := ⟨⟨⟨by decide +kernel, by decide +kernel, by decide +kernel⟩, (zw_mG (List.mem_of_getElem? (i := 1428) (by decide +kernel)) rfl), (zw_mG (List.mem_of_getElem? (i := 108) (by decide +kernel)) rfl), by decide, by decide +kernel⟩, (zw_mG (List.mem_of_getElem? (i := 1427) (by decide +kernel)) rfl), (zw_mG (List.mem_of_getElem? (i := 52) (by decide +kernel)) rfl)⟩
def f_X11_token (v0 : Nat) (v1 : Int32) (v2 : Int32) (v3 : Int32) (v4 : Int64) (I : zI) (R : zR) (J : zJ) : Option (zI × zJ) :=
  zw_g (zw_gc v0 11) (zw_g (zw_gc (R v0 5) 13) (zw_g (zw_in (I v0 10) (zw_SH (R v0 5)).2) (zw_let (zw_u I (R v0 5) (Int32.toNatClampNeg (I v0 10)) v1 : zI) fun I4 => (zw_g (zw_gc (R v0 6) 13) (zw_g (zw_in (I4 v0 10) (zw_SH (R v0 6)).2) (zw_let (zw_u I4 (R v0 6) (Int32.toNatClampNeg (I4 v0 10)) v2 : zI) fun I7 => (zw_g (zw_gc (R v0 7) 13) (zw_g (zw_in (I7 v0 10) (zw_SH (R v0 7)).2) (zw_let (zw_u I7 (R v0 7) (Int32.toNatClampNeg (I7 v0 10)) v3 : zI) fun I10 => (zw_g (zw_gc (R v0 8) 14) (zw_g (zw_in (I10 v0 10) (zw_SH (R v0 8)).2) (zw_let (zw_u J (R v0 8) (Int32.toNatClampNeg (I10 v0 10)) v4 : zJ) fun J13 => (zw_let (zw_u I10 v0 10 ((I10 v0 10) + 1) : zI) fun I14 => (some (I14, J13)))))))))))))))
theorem c_X11_token (X : zw_X) (v0 : Nat) (v1 : Int32) (v2 : Int32) (v3 : Int32) (v4 : Int64) (I : zI) (R : zR) (J : zJ) {P : Option Value → aS → Prop} (o : zI × zJ) (hf : f_X11_token v0 v1 v2 v3 v4 I R J = some o) (hk : P none (o.1, R, o.2)) : zw_C X M_X11_token 0 0 0 199 [.ref v0, .int v1, .int v2, .int v3, .long v4] (I, R, J) P := by
  show zy_V X M_X11_token 0 P 0 [.ref v0, .int v1, .int v2, .int v3, .long v4, .null] [] (I, R, J)
  unfold f_X11_token at hf
  refine zv_aload_n (pc := 0) d_X11_token_0 rfl ?_
  obtain ⟨g1, hf⟩ := zw_gcE hf (by decide)
  obtain ⟨g2, hf⟩ := zw_gcE hf (by decide)
  refine zx_getR (pc := 1) d_X11_token_1 lk_CutStonesModel_20 (by decide) g1 g2 ?_
  refine zv_aload_n (pc := 4) d_X11_token_4 rfl ?_
  refine zx_getI (pc := 5) d_X11_token_5 lk_CutStonesModel_193 (by decide) g1 ?_
  refine zv_iload_n (pc := 8) d_X11_token_8 rfl ?_
  obtain ⟨i3, hf⟩ := zw_inE hf
  obtain ⟨I4, eI4, hf⟩ := zw_letE hf
  refine zx_iast (pc := 9) (I2 := I4) d_X11_token_9 g2 i3 eI4 ?_
  refine zv_aload_n (pc := 10) d_X11_token_10 rfl ?_
  obtain ⟨g5, hf⟩ := zw_gcE hf (by decide)
  refine zx_getR (pc := 11) d_X11_token_11 lk_CutStonesModel_24 (by decide) g1 g5 ?_
  refine zv_aload_n (pc := 14) d_X11_token_14 rfl ?_
  refine zx_getI (pc := 15) d_X11_token_15 lk_CutStonesModel_193 (by decide) g1 ?_
  refine zv_iload_n (pc := 18) d_X11_token_18 rfl ?_
  obtain ⟨i6, hf⟩ := zw_inE hf
  obtain ⟨I7, eI7, hf⟩ := zw_letE hf
  refine zx_iast (pc := 19) (I2 := I7) d_X11_token_19 g5 i6 eI7 ?_
  refine zv_aload_n (pc := 20) d_X11_token_20 rfl ?_
  obtain ⟨g8, hf⟩ := zw_gcE hf (by decide)
  refine zx_getR (pc := 21) d_X11_token_21 lk_CutStonesModel_27 (by decide) g1 g8 ?_
  refine zv_aload_n (pc := 24) d_X11_token_24 rfl ?_
  refine zx_getI (pc := 25) d_X11_token_25 lk_CutStonesModel_193 (by decide) g1 ?_
  refine zv_iload_n (pc := 28) d_X11_token_28 rfl ?_
  obtain ⟨i9, hf⟩ := zw_inE hf
  obtain ⟨I10, eI10, hf⟩ := zw_letE hf
  refine zx_iast (pc := 29) (I2 := I10) d_X11_token_29 g8 i9 eI10 ?_
  refine zv_aload_n (pc := 30) d_X11_token_30 rfl ?_
  obtain ⟨g11, hf⟩ := zw_gcE hf (by decide)
  refine zx_getR (pc := 31) d_X11_token_31 lk_CutStonesModel_30 (by decide) g1 g11 ?_
  refine zv_aload_n (pc := 34) d_X11_token_34 rfl ?_
  refine zx_getI (pc := 35) d_X11_token_35 lk_CutStonesModel_193 (by decide) g1 ?_
  refine zv_lload (pc := 38) d_X11_token_38 rfl ?_
  obtain ⟨i12, hf⟩ := zw_inE hf
  obtain ⟨J13, eJ13, hf⟩ := zw_letE hf
  refine zx_last (pc := 40) (J2 := J13) d_X11_token_40 g11 i12 eJ13 ?_
  refine zv_aload_n (pc := 41) d_X11_token_41 rfl ?_
  refine zv_dup (pc := 42) d_X11_token_42 rfl ?_
  refine zx_getI (pc := 43) d_X11_token_43 lk_CutStonesModel_193 (by decide) g1 ?_
  refine zv_iconst (pc := 46) d_X11_token_46 zc_i_1 ?_
  refine zv_iadd (pc := 47) d_X11_token_47 ?_
  obtain ⟨I14, eI14, hf⟩ := zw_letE hf
  refine zx_putI (pc := 48) (I2 := I14) d_X11_token_48 lk_CutStonesModel_193 rfl g1 eI14 ?_
  cases hf
  exact zx_vret (pc := 51) d_X11_token_51 rfl hk
abbrev M_X11_upDown : zw_M := (⟨"CutStonesModel", "upDown", "(I)I"⟩, prog_13_method_40_code, 1, (Option.some Jvm.ClassFile.FieldType.int))
theorem d_X11_upDown_0 : decode M_X11_upDown.2.1 0 = .ok (.iload_n 0, 1) := by decide +kernel
theorem d_X11_upDown_1 : decode M_X11_upDown.2.1 1 = .ok (.iconst 3, 1) := by decide +kernel
theorem d_X11_upDown_2 : decode M_X11_upDown.2.1 2 = .ok (.if_icmp .ge 7, 3) := by decide +kernel
theorem d_X11_upDown_5 : decode M_X11_upDown.2.1 5 = .ok (.iconst 0, 1) := by decide +kernel
theorem d_X11_upDown_6 : decode M_X11_upDown.2.1 6 = .ok (.goto 4, 3) := by decide +kernel
theorem d_X11_upDown_9 : decode M_X11_upDown.2.1 9 = .ok (.iconst 2, 1) := by decide +kernel
theorem d_X11_upDown_10 : decode M_X11_upDown.2.1 10 = .ok (.ireturn, 1) := by decide +kernel
theorem ce_X11_upDown : zw_CeS M_X11_upDown 1 := ⟨⟨⟨by decide +kernel, by decide +kernel, by decide +kernel⟩, (zw_mG (List.mem_of_getElem? (i := 1579) (by decide +kernel)) rfl), (zw_mG (List.mem_of_getElem? (i := 108) (by decide +kernel)) rfl), by decide, by decide +kernel⟩, (zw_mG (List.mem_of_getElem? (i := 1578) (by decide +kernel)) rfl)⟩
def f_X11_upDown (v0 : Int32)  : Option (Int32) :=
  if 3 ≤ v0 then some 2 else some 0
theorem c_X11_upDown (X : zw_X) (v0 : Int32) (I : zI) (R : zR) (J : zJ) {P : Option Value → aS → Prop} (o : Int32) (hf : f_X11_upDown v0  = some o) (hk : P (some (.int o)) (I, R, J)) : zw_C X M_X11_upDown 0 0 0 199 [.int v0] (I, R, J) P := by
  show zy_V X M_X11_upDown 0 P 0 [.int v0] [] (I, R, J)
  unfold f_X11_upDown at hf
  refine zv_iload_n (pc := 0) d_X11_upDown_0 rfl ?_
  refine zv_iconst (pc := 1) d_X11_upDown_1 zc_i_3 ?_
  rcases zw_ifE hf with ⟨c1, hf⟩ | ⟨c1, hf⟩
  · refine zv_icmp_ge (pc := 2) (tg := 9) d_X11_upDown_2 (by decide) (fun _ => ?_) (fun q => absurd c1 q)
    refine zv_iconst (pc := 9) d_X11_upDown_9 zc_i_2 ?_
    cases hf
    exact zx_iret (pc := 10) d_X11_upDown_10 rfl hk
  · refine zv_icmp_ge (pc := 2) (tg := 9) d_X11_upDown_2 (by decide) (fun q => absurd q c1) (fun _ => ?_)
    refine zv_iconst (pc := 5) d_X11_upDown_5 zc_i_0 ?_
    refine zv_goto (pc := 6) (tg := 10) d_X11_upDown_6 (by decide) ?_
    cases hf
    exact zx_iret (pc := 10) d_X11_upDown_10 rfl hk
abbrev M_X11_wrong : zw_M := (⟨"CutStonesModel", "wrong", "(II)V"⟩, prog_13_method_17_code, 4, (Option.none : Option Jvm.ClassFile.FieldType))
theorem d_X11_wrong_0 : decode M_X11_wrong.2.1 0 = .ok (.aload_n 0, 1) := by decide +kernel
theorem d_X11_wrong_1 : decode M_X11_wrong.2.1 1 = .ok (.getfield 24, 3) := by decide +kernel
theorem d_X11_wrong_4 : decode M_X11_wrong.2.1 4 = .ok (.iload_n 2, 1) := by decide +kernel
theorem d_X11_wrong_5 : decode M_X11_wrong.2.1 5 = .ok (.iaload, 1) := by decide +kernel
theorem d_X11_wrong_6 : decode M_X11_wrong.2.1 6 = .ok (.istore_n 3, 1) := by decide +kernel
theorem d_X11_wrong_7 : decode M_X11_wrong.2.1 7 = .ok (.aload_n 0, 1) := by decide +kernel
theorem d_X11_wrong_8 : decode M_X11_wrong.2.1 8 = .ok (.getfield 218, 3) := by decide +kernel
theorem d_X11_wrong_11 : decode M_X11_wrong.2.1 11 = .ok (.ifCond .gt 34, 3) := by decide +kernel
theorem d_X11_wrong_14 : decode M_X11_wrong.2.1 14 = .ok (.aload_n 0, 1) := by decide +kernel
theorem d_X11_wrong_15 : decode M_X11_wrong.2.1 15 = .ok (.getfield 227, 3) := by decide +kernel
theorem d_X11_wrong_18 : decode M_X11_wrong.2.1 18 = .ok (.ifCond .eq 28, 3) := by decide +kernel
theorem d_X11_wrong_21 : decode M_X11_wrong.2.1 21 = .ok (.iload_n 3, 1) := by decide +kernel
theorem d_X11_wrong_22 : decode M_X11_wrong.2.1 22 = .ok (.aload_n 0, 1) := by decide +kernel
theorem d_X11_wrong_23 : decode M_X11_wrong.2.1 23 = .ok (.getfield 230, 3) := by decide +kernel
theorem d_X11_wrong_26 : decode M_X11_wrong.2.1 26 = .ok (.if_icmp .gt 19, 3) := by decide +kernel
theorem d_X11_wrong_29 : decode M_X11_wrong.2.1 29 = .ok (.iload_n 3, 1) := by decide +kernel
theorem d_X11_wrong_30 : decode M_X11_wrong.2.1 30 = .ok (.aload_n 0, 1) := by decide +kernel
theorem d_X11_wrong_31 : decode M_X11_wrong.2.1 31 = .ok (.getfield 230, 3) := by decide +kernel
theorem d_X11_wrong_34 : decode M_X11_wrong.2.1 34 = .ok (.if_icmp .ne 12, 3) := by decide +kernel
theorem d_X11_wrong_37 : decode M_X11_wrong.2.1 37 = .ok (.iload_n 1, 1) := by decide +kernel
theorem d_X11_wrong_38 : decode M_X11_wrong.2.1 38 = .ok (.aload_n 0, 1) := by decide +kernel
theorem d_X11_wrong_39 : decode M_X11_wrong.2.1 39 = .ok (.getfield 227, 3) := by decide +kernel
theorem d_X11_wrong_42 : decode M_X11_wrong.2.1 42 = .ok (.if_icmp .lt 4, 3) := by decide +kernel
theorem d_X11_wrong_45 : decode M_X11_wrong.2.1 45 = .ok (.return_, 1) := by decide +kernel
theorem d_X11_wrong_46 : decode M_X11_wrong.2.1 46 = .ok (.aload_n 0, 1) := by decide +kernel
theorem d_X11_wrong_47 : decode M_X11_wrong.2.1 47 = .ok (.iload_n 1, 1) := by decide +kernel
theorem d_X11_wrong_48 : decode M_X11_wrong.2.1 48 = .ok (.putfield 227, 3) := by decide +kernel
theorem d_X11_wrong_51 : decode M_X11_wrong.2.1 51 = .ok (.aload_n 0, 1) := by decide +kernel
theorem d_X11_wrong_52 : decode M_X11_wrong.2.1 52 = .ok (.iload_n 3, 1) := by decide +kernel
theorem d_X11_wrong_53 : decode M_X11_wrong.2.1 53 = .ok (.putfield 230, 3) := by decide +kernel
theorem d_X11_wrong_56 : decode M_X11_wrong.2.1 56 = .ok (.return_, 1) := by decide +kernel
theorem ce_X11_wrong : zw_CeV M_X11_wrong 2 := ⟨⟨⟨by decide +kernel, by decide +kernel, by decide +kernel⟩, (zw_mG (List.mem_of_getElem? (i := 1473) (by decide +kernel)) rfl), (zw_mG (List.mem_of_getElem? (i := 108) (by decide +kernel)) rfl), by decide, by decide +kernel⟩, (zw_mG (List.mem_of_getElem? (i := 1472) (by decide +kernel)) rfl), (zw_mG (List.mem_of_getElem? (i := 61) (by decide +kernel)) rfl)⟩
def j_X11_wrong_46 (v0 : Nat) (v1 : Int32) (v3 : Int32) (I : zI) (R : zR) : Option (zI) :=
  zw_g (zw_gc v0 11) (zw_let (zw_u I v0 15 v1 : zI) fun I8 => (zw_let (zw_u I8 v0 16 v3 : zI) fun I9 => (some I9)))
theorem j_X11_wrong_46_ok (X : zw_X) (P : Option Value → aS → Prop) (v0 : Nat) (v1 : Int32) (v3 : Int32) (I : zI) (R : zR) (J : zJ) (o : zI) (hf : j_X11_wrong_46 v0 v1 v3 I R = some o) (hk : P none (o, R, J)) : zy_V X M_X11_wrong 0 P 46 [.ref v0, .int v1, .null, .int v3] [] (I, R, J) := by
  unfold j_X11_wrong_46 at hf
  refine zv_aload_n (pc := 46) d_X11_wrong_46 rfl ?_
  refine zv_iload_n (pc := 47) d_X11_wrong_47 rfl ?_
  obtain ⟨g7, hf⟩ := zw_gcE hf (by decide)
  obtain ⟨I8, eI8, hf⟩ := zw_letE hf
  refine zx_putI (pc := 48) (I2 := I8) d_X11_wrong_48 lk_CutStonesModel_227 rfl g7 eI8 ?_
  refine zv_aload_n (pc := 51) d_X11_wrong_51 rfl ?_
  refine zv_iload_n (pc := 52) d_X11_wrong_52 rfl ?_
  obtain ⟨I9, eI9, hf⟩ := zw_letE hf
  refine zx_putI (pc := 53) (I2 := I9) d_X11_wrong_53 lk_CutStonesModel_230 rfl g7 eI9 ?_
  cases hf
  exact zx_vret (pc := 56) d_X11_wrong_56 rfl hk
def f_X11_wrong (v0 : Nat) (v1 : Int32) (v2 : Int32) (I : zI) (R : zR) : Option (zI) :=
  zw_g (zw_gc v0 11) (zw_g (zw_gc (R v0 6) 13) (zw_g (zw_in v2 (zw_SH (R v0 6)).2) (zw_let ((I (R v0 6) (Int32.toNatClampNeg v2)) : Int32) fun x4 => (if 0 < (I v0 13) then some I else if (I v0 15) = 0 then j_X11_wrong_46 v0 v1 x4 I R else if (I v0 16) < x4 then some I else if ¬ x4 = (I v0 16) then j_X11_wrong_46 v0 v1 x4 I R else if v1 < (I v0 15) then j_X11_wrong_46 v0 v1 x4 I R else some I))))
theorem c_X11_wrong (X : zw_X) (v0 : Nat) (v1 : Int32) (v2 : Int32) (I : zI) (R : zR) (J : zJ) {P : Option Value → aS → Prop} (o : zI) (hf : f_X11_wrong v0 v1 v2 I R = some o) (hk : P none (o, R, J)) : zw_C X M_X11_wrong 0 0 0 199 [.ref v0, .int v1, .int v2] (I, R, J) P := by
  show zy_V X M_X11_wrong 0 P 0 [.ref v0, .int v1, .int v2, .null] [] (I, R, J)
  unfold f_X11_wrong at hf
  refine zv_aload_n (pc := 0) d_X11_wrong_0 rfl ?_
  obtain ⟨g1, hf⟩ := zw_gcE hf (by decide)
  obtain ⟨g2, hf⟩ := zw_gcE hf (by decide)
  refine zx_getR (pc := 1) d_X11_wrong_1 lk_CutStonesModel_24 (by decide) g1 g2 ?_
  refine zv_iload_n (pc := 4) d_X11_wrong_4 rfl ?_
  obtain ⟨i3, hf⟩ := zw_inE hf
  refine zx_iald (pc := 5) d_X11_wrong_5 g2 i3 ?_
  obtain ⟨x4, ex4, hf⟩ := zw_letE hf
  refine zx_istore_n (pc := 6) (x2 := x4) (L2 := [.ref v0, .int v1, .int v2, .int x4]) d_X11_wrong_6 (by decide) ex4 rfl ?_
  refine zv_aload_n (pc := 7) d_X11_wrong_7 rfl ?_
  refine zx_getI (pc := 8) d_X11_wrong_8 lk_CutStonesModel_218 (by decide) g1 ?_
  rcases zw_ifE hf with ⟨c5, hf⟩ | ⟨c5, hf⟩
  · refine zv_if_gt (pc := 11) (tg := 45) d_X11_wrong_11 (by decide) (fun _ => ?_) (fun q => absurd c5 q)
    cases hf
    exact zx_vret (pc := 45) d_X11_wrong_45 rfl hk
  · refine zv_if_gt (pc := 11) (tg := 45) d_X11_wrong_11 (by decide) (fun q => absurd q c5) (fun _ => ?_)
    refine zv_aload_n (pc := 14) d_X11_wrong_14 rfl ?_
    refine zx_getI (pc := 15) d_X11_wrong_15 lk_CutStonesModel_227 (by decide) g1 ?_
    rcases zw_ifE hf with ⟨c6, hf⟩ | ⟨c6, hf⟩
    · refine zv_if_eq (pc := 18) (tg := 46) d_X11_wrong_18 (by decide) (fun _ => ?_) (fun q => absurd c6 q)
      exact zx_weak (zw_leS (zw_leS (zw_leN (zw_leS zw_leZ)))) (j_X11_wrong_46_ok X P v0 v1 x4 I R J _ hf hk)
    · refine zv_if_eq (pc := 18) (tg := 46) d_X11_wrong_18 (by decide) (fun q => absurd q c6) (fun _ => ?_)
      refine zv_iload_n (pc := 21) d_X11_wrong_21 rfl ?_
      refine zv_aload_n (pc := 22) d_X11_wrong_22 rfl ?_
      refine zx_getI (pc := 23) d_X11_wrong_23 lk_CutStonesModel_230 (by decide) g1 ?_
      rcases zw_ifE hf with ⟨c10, hf⟩ | ⟨c10, hf⟩
      · refine zv_icmp_gt (pc := 26) (tg := 45) d_X11_wrong_26 (by decide) (fun _ => ?_) (fun q => absurd c10 q)
        cases hf
        exact zx_vret (pc := 45) d_X11_wrong_45 rfl hk
      · refine zv_icmp_gt (pc := 26) (tg := 45) d_X11_wrong_26 (by decide) (fun q => absurd q c10) (fun _ => ?_)
        refine zv_iload_n (pc := 29) d_X11_wrong_29 rfl ?_
        refine zv_aload_n (pc := 30) d_X11_wrong_30 rfl ?_
        refine zx_getI (pc := 31) d_X11_wrong_31 lk_CutStonesModel_230 (by decide) g1 ?_
        rcases zw_ifE hf with ⟨c11, hf⟩ | ⟨c11, hf⟩
        · refine zv_icmp_ne (pc := 34) (tg := 46) d_X11_wrong_34 (by decide) (fun _ => ?_) (fun q => absurd q c11)
          exact zx_weak (zw_leS (zw_leS (zw_leN (zw_leS zw_leZ)))) (j_X11_wrong_46_ok X P v0 v1 x4 I R J _ hf hk)
        · refine zv_icmp_ne (pc := 34) (tg := 46) d_X11_wrong_34 (by decide) (fun q => absurd q c11) (fun _ => ?_)
          refine zv_iload_n (pc := 37) d_X11_wrong_37 rfl ?_
          refine zv_aload_n (pc := 38) d_X11_wrong_38 rfl ?_
          refine zx_getI (pc := 39) d_X11_wrong_39 lk_CutStonesModel_227 (by decide) g1 ?_
          rcases zw_ifE hf with ⟨c12, hf⟩ | ⟨c12, hf⟩
          · refine zv_icmp_lt (pc := 42) (tg := 46) d_X11_wrong_42 (by decide) (fun _ => ?_) (fun q => absurd c12 q)
            exact zx_weak (zw_leS (zw_leS (zw_leN (zw_leS zw_leZ)))) (j_X11_wrong_46_ok X P v0 v1 x4 I R J _ hf hk)
          · refine zv_icmp_lt (pc := 42) (tg := 46) d_X11_wrong_42 (by decide) (fun q => absurd q c12) (fun _ => ?_)
            cases hf
            exact zx_vret (pc := 45) d_X11_wrong_45 rfl hk
abbrev M_X1_addCode : zw_M := (⟨"CutStones$House", "addCode", "(II)V"⟩, prog_3_method_9_code, 3, (Option.none : Option Jvm.ClassFile.FieldType))
theorem d_X1_addCode_0 : decode M_X1_addCode.2.1 0 = .ok (.aload_n 0, 1) := by decide +kernel
theorem d_X1_addCode_1 : decode M_X1_addCode.2.1 1 = .ok (.getfield 65, 3) := by decide +kernel
theorem d_X1_addCode_4 : decode M_X1_addCode.2.1 4 = .ok (.sipush 500, 3) := by decide +kernel
theorem d_X1_addCode_7 : decode M_X1_addCode.2.1 7 = .ok (.if_icmp .ge 33, 3) := by decide +kernel
theorem d_X1_addCode_10 : decode M_X1_addCode.2.1 10 = .ok (.aload_n 0, 1) := by decide +kernel
theorem d_X1_addCode_11 : decode M_X1_addCode.2.1 11 = .ok (.getfield 58, 3) := by decide +kernel
theorem d_X1_addCode_14 : decode M_X1_addCode.2.1 14 = .ok (.aload_n 0, 1) := by decide +kernel
theorem d_X1_addCode_15 : decode M_X1_addCode.2.1 15 = .ok (.getfield 65, 3) := by decide +kernel
theorem d_X1_addCode_18 : decode M_X1_addCode.2.1 18 = .ok (.iload_n 1, 1) := by decide +kernel
theorem d_X1_addCode_19 : decode M_X1_addCode.2.1 19 = .ok (.iastore, 1) := by decide +kernel
theorem d_X1_addCode_20 : decode M_X1_addCode.2.1 20 = .ok (.aload_n 0, 1) := by decide +kernel
theorem d_X1_addCode_21 : decode M_X1_addCode.2.1 21 = .ok (.getfield 62, 3) := by decide +kernel
theorem d_X1_addCode_24 : decode M_X1_addCode.2.1 24 = .ok (.aload_n 0, 1) := by decide +kernel
theorem d_X1_addCode_25 : decode M_X1_addCode.2.1 25 = .ok (.getfield 65, 3) := by decide +kernel
theorem d_X1_addCode_28 : decode M_X1_addCode.2.1 28 = .ok (.iload_n 2, 1) := by decide +kernel
theorem d_X1_addCode_29 : decode M_X1_addCode.2.1 29 = .ok (.iastore, 1) := by decide +kernel
theorem d_X1_addCode_30 : decode M_X1_addCode.2.1 30 = .ok (.aload_n 0, 1) := by decide +kernel
theorem d_X1_addCode_31 : decode M_X1_addCode.2.1 31 = .ok (.dup, 1) := by decide +kernel
theorem d_X1_addCode_32 : decode M_X1_addCode.2.1 32 = .ok (.getfield 65, 3) := by decide +kernel
theorem d_X1_addCode_35 : decode M_X1_addCode.2.1 35 = .ok (.iconst 1, 1) := by decide +kernel
theorem d_X1_addCode_36 : decode M_X1_addCode.2.1 36 = .ok (.iadd, 1) := by decide +kernel
theorem d_X1_addCode_37 : decode M_X1_addCode.2.1 37 = .ok (.putfield 65, 3) := by decide +kernel
theorem d_X1_addCode_40 : decode M_X1_addCode.2.1 40 = .ok (.return_, 1) := by decide +kernel
theorem ce_X1_addCode : zw_CeV M_X1_addCode 2 := ⟨⟨⟨by decide +kernel, by decide +kernel, by decide +kernel⟩, (zw_mG (List.mem_of_getElem? (i := 800) (by decide +kernel)) rfl), (zw_mG (List.mem_of_getElem? (i := 99) (by decide +kernel)) rfl), by decide, by decide +kernel⟩, (zw_mG (List.mem_of_getElem? (i := 798) (by decide +kernel)) rfl), (zw_mG (List.mem_of_getElem? (i := 799) (by decide +kernel)) rfl)⟩
def f_X1_addCode (v0 : Nat) (v1 : Int32) (v2 : Int32) (I : zI) (R : zR) : Option (zI) :=
  zw_g (zw_gc v0 1) (if 500 ≤ (I v0 14) then some I else zw_g (zw_gc (R v0 12) 13) (zw_g (zw_in (I v0 14) (zw_SH (R v0 12)).2) (zw_let (zw_u I (R v0 12) (Int32.toNatClampNeg (I v0 14)) v1 : zI) fun I5 => (zw_g (zw_gc (R v0 13) 13) (zw_g (zw_in (I5 v0 14) (zw_SH (R v0 13)).2) (zw_let (zw_u I5 (R v0 13) (Int32.toNatClampNeg (I5 v0 14)) v2 : zI) fun I8 => (zw_let (zw_u I8 v0 14 ((I8 v0 14) + 1) : zI) fun I9 => (some I9))))))))
theorem c_X1_addCode (X : zw_X) (v0 : Nat) (v1 : Int32) (v2 : Int32) (I : zI) (R : zR) (J : zJ) {P : Option Value → aS → Prop} (o : zI) (hf : f_X1_addCode v0 v1 v2 I R = some o) (hk : P none (o, R, J)) : zw_C X M_X1_addCode 0 0 0 199 [.ref v0, .int v1, .int v2] (I, R, J) P := by
  show zy_V X M_X1_addCode 0 P 0 [.ref v0, .int v1, .int v2] [] (I, R, J)
  unfold f_X1_addCode at hf
  refine zv_aload_n (pc := 0) d_X1_addCode_0 rfl ?_
  obtain ⟨g1, hf⟩ := zw_gcE hf (by decide)
  refine zx_getI (pc := 1) d_X1_addCode_1 lk_CutStones_House_65 (by decide) g1 ?_
  refine zv_sipush (pc := 4) d_X1_addCode_4 zc_s_500 ?_
  rcases zw_ifE hf with ⟨c2, hf⟩ | ⟨c2, hf⟩
  · refine zv_icmp_ge (pc := 7) (tg := 40) d_X1_addCode_7 (by decide) (fun _ => ?_) (fun q => absurd c2 q)
    cases hf
    exact zx_vret (pc := 40) d_X1_addCode_40 rfl hk
  · refine zv_icmp_ge (pc := 7) (tg := 40) d_X1_addCode_7 (by decide) (fun q => absurd q c2) (fun _ => ?_)
    refine zv_aload_n (pc := 10) d_X1_addCode_10 rfl ?_
    obtain ⟨g3, hf⟩ := zw_gcE hf (by decide)
    refine zx_getR (pc := 11) d_X1_addCode_11 lk_CutStones_House_58 (by decide) g1 g3 ?_
    refine zv_aload_n (pc := 14) d_X1_addCode_14 rfl ?_
    refine zx_getI (pc := 15) d_X1_addCode_15 lk_CutStones_House_65 (by decide) g1 ?_
    refine zv_iload_n (pc := 18) d_X1_addCode_18 rfl ?_
    obtain ⟨i4, hf⟩ := zw_inE hf
    obtain ⟨I5, eI5, hf⟩ := zw_letE hf
    refine zx_iast (pc := 19) (I2 := I5) d_X1_addCode_19 g3 i4 eI5 ?_
    refine zv_aload_n (pc := 20) d_X1_addCode_20 rfl ?_
    obtain ⟨g6, hf⟩ := zw_gcE hf (by decide)
    refine zx_getR (pc := 21) d_X1_addCode_21 lk_CutStones_House_62 (by decide) g1 g6 ?_
    refine zv_aload_n (pc := 24) d_X1_addCode_24 rfl ?_
    refine zx_getI (pc := 25) d_X1_addCode_25 lk_CutStones_House_65 (by decide) g1 ?_
    refine zv_iload_n (pc := 28) d_X1_addCode_28 rfl ?_
    obtain ⟨i7, hf⟩ := zw_inE hf
    obtain ⟨I8, eI8, hf⟩ := zw_letE hf
    refine zx_iast (pc := 29) (I2 := I8) d_X1_addCode_29 g6 i7 eI8 ?_
    refine zv_aload_n (pc := 30) d_X1_addCode_30 rfl ?_
    refine zv_dup (pc := 31) d_X1_addCode_31 rfl ?_
    refine zx_getI (pc := 32) d_X1_addCode_32 lk_CutStones_House_65 (by decide) g1 ?_
    refine zv_iconst (pc := 35) d_X1_addCode_35 zc_i_1 ?_
    refine zv_iadd (pc := 36) d_X1_addCode_36 ?_
    obtain ⟨I9, eI9, hf⟩ := zw_letE hf
    refine zx_putI (pc := 37) (I2 := I9) d_X1_addCode_37 lk_CutStones_House_65 rfl g1 eI9 ?_
    cases hf
    exact zx_vret (pc := 40) d_X1_addCode_40 rfl hk
abbrev M_X1_addGrade : zw_M := (⟨"CutStones$House", "addGrade", "()LCutStones$Rule;"⟩, prog_3_method_6_code, 2, (Option.some (Jvm.ClassFile.FieldType.object "CutStones$Rule")))
theorem d_X1_addGrade_0 : decode M_X1_addGrade.2.1 0 = .ok (.aload_n 0, 1) := by decide +kernel
theorem d_X1_addGrade_1 : decode M_X1_addGrade.2.1 1 = .ok (.getfield 38, 3) := by decide +kernel
theorem d_X1_addGrade_4 : decode M_X1_addGrade.2.1 4 = .ok (.aload_n 0, 1) := by decide +kernel
theorem d_X1_addGrade_5 : decode M_X1_addGrade.2.1 5 = .ok (.getfield 42, 3) := by decide +kernel
theorem d_X1_addGrade_8 : decode M_X1_addGrade.2.1 8 = .ok (.aaload, 1) := by decide +kernel
theorem d_X1_addGrade_9 : decode M_X1_addGrade.2.1 9 = .ok (.astore_n 1, 1) := by decide +kernel
theorem d_X1_addGrade_10 : decode M_X1_addGrade.2.1 10 = .ok (.aload_n 0, 1) := by decide +kernel
theorem d_X1_addGrade_11 : decode M_X1_addGrade.2.1 11 = .ok (.dup, 1) := by decide +kernel
theorem d_X1_addGrade_12 : decode M_X1_addGrade.2.1 12 = .ok (.getfield 42, 3) := by decide +kernel
theorem d_X1_addGrade_15 : decode M_X1_addGrade.2.1 15 = .ok (.iconst 1, 1) := by decide +kernel
theorem d_X1_addGrade_16 : decode M_X1_addGrade.2.1 16 = .ok (.iadd, 1) := by decide +kernel
theorem d_X1_addGrade_17 : decode M_X1_addGrade.2.1 17 = .ok (.putfield 42, 3) := by decide +kernel
theorem d_X1_addGrade_20 : decode M_X1_addGrade.2.1 20 = .ok (.aload_n 1, 1) := by decide +kernel
theorem d_X1_addGrade_21 : decode M_X1_addGrade.2.1 21 = .ok (.areturn, 1) := by decide +kernel
theorem ce_X1_addGrade : zw_CeV M_X1_addGrade 0 := ⟨⟨⟨by decide +kernel, by decide +kernel, by decide +kernel⟩, (zw_mG (List.mem_of_getElem? (i := 776) (by decide +kernel)) rfl), (zw_mG (List.mem_of_getElem? (i := 99) (by decide +kernel)) rfl), by decide, by decide +kernel⟩, (zw_mG (List.mem_of_getElem? (i := 774) (by decide +kernel)) rfl), (zw_mG (List.mem_of_getElem? (i := 775) (by decide +kernel)) rfl)⟩
def f_X1_addGrade (v0 : Nat) (I : zI) (R : zR) : Option (Nat × zI) :=
  zw_g (zw_gc v0 1) (zw_g (zw_gc (R v0 6) 17) (zw_g (zw_in (I v0 7) (zw_SH (R v0 6)).2) (zw_g (zw_gc (R (R v0 6) (Int32.toNatClampNeg (I v0 7))) 5) (zw_let (zw_u I v0 7 ((I v0 7) + 1) : zI) fun I5 => (some ((R (R v0 6) (Int32.toNatClampNeg (I v0 7))), I5))))))
theorem c_X1_addGrade (X : zw_X) (v0 : Nat) (I : zI) (R : zR) (J : zJ) {P : Option Value → aS → Prop} (o : Nat × zI) (hf : f_X1_addGrade v0 I R = some o) (hk : P (some (.ref o.1)) (o.2, R, J)) : zw_C X M_X1_addGrade 0 0 0 199 [.ref v0] (I, R, J) P := by
  show zy_V X M_X1_addGrade 0 P 0 [.ref v0, .null] [] (I, R, J)
  unfold f_X1_addGrade at hf
  refine zv_aload_n (pc := 0) d_X1_addGrade_0 rfl ?_
  obtain ⟨g1, hf⟩ := zw_gcE hf (by decide)
  obtain ⟨g2, hf⟩ := zw_gcE hf (by decide)
  refine zx_getR (pc := 1) d_X1_addGrade_1 lk_CutStones_House_38 (by decide) g1 g2 ?_
  refine zv_aload_n (pc := 4) d_X1_addGrade_4 rfl ?_
  refine zx_getI (pc := 5) d_X1_addGrade_5 lk_CutStones_House_42 (by decide) g1 ?_
  obtain ⟨i3, hf⟩ := zw_inE hf
  obtain ⟨g4, hf⟩ := zw_gcE hf (by decide)
  refine zx_aald (pc := 8) d_X1_addGrade_8 g2 (by decide) i3 g4 ?_
  refine zx_astore_n (pc := 9) (L2 := [.ref v0, .ref (R (R v0 6) (Int32.toNatClampNeg (I v0 7)))]) d_X1_addGrade_9 (by decide) rfl ?_
  refine zv_aload_n (pc := 10) d_X1_addGrade_10 rfl ?_
  refine zv_dup (pc := 11) d_X1_addGrade_11 rfl ?_
  refine zx_getI (pc := 12) d_X1_addGrade_12 lk_CutStones_House_42 (by decide) g1 ?_
  refine zv_iconst (pc := 15) d_X1_addGrade_15 zc_i_1 ?_
  refine zv_iadd (pc := 16) d_X1_addGrade_16 ?_
  obtain ⟨I5, eI5, hf⟩ := zw_letE hf
  refine zx_putI (pc := 17) (I2 := I5) d_X1_addGrade_17 lk_CutStones_House_42 rfl g1 eI5 ?_
  refine zv_aload_n (pc := 20) d_X1_addGrade_20 rfl ?_
  cases hf
  exact zx_aret (pc := 21) d_X1_addGrade_21 rfl hk
abbrev M_X1_addName : zw_M := (⟨"CutStones$House", "addName", "(J)Z"⟩, prog_3_method_8_code, 4, (Option.some Jvm.ClassFile.FieldType.boolean))
theorem d_X1_addName_0 : decode M_X1_addName.2.1 0 = .ok (.iconst 0, 1) := by decide +kernel
theorem d_X1_addName_1 : decode M_X1_addName.2.1 1 = .ok (.istore_n 3, 1) := by decide +kernel
theorem d_X1_addName_2 : decode M_X1_addName.2.1 2 = .ok (.iload_n 3, 1) := by decide +kernel
theorem d_X1_addName_3 : decode M_X1_addName.2.1 3 = .ok (.aload_n 0, 1) := by decide +kernel
theorem d_X1_addName_4 : decode M_X1_addName.2.1 4 = .ok (.getfield 55, 3) := by decide +kernel
theorem d_X1_addName_7 : decode M_X1_addName.2.1 7 = .ok (.if_icmp .ge 22, 3) := by decide +kernel
theorem d_X1_addName_10 : decode M_X1_addName.2.1 10 = .ok (.aload_n 0, 1) := by decide +kernel
theorem d_X1_addName_11 : decode M_X1_addName.2.1 11 = .ok (.getfield 51, 3) := by decide +kernel
theorem d_X1_addName_14 : decode M_X1_addName.2.1 14 = .ok (.iload_n 3, 1) := by decide +kernel
theorem d_X1_addName_15 : decode M_X1_addName.2.1 15 = .ok (.laload, 1) := by decide +kernel
theorem d_X1_addName_16 : decode M_X1_addName.2.1 16 = .ok (.lload_n 1, 1) := by decide +kernel
theorem d_X1_addName_17 : decode M_X1_addName.2.1 17 = .ok (.lcmp, 1) := by decide +kernel
theorem d_X1_addName_18 : decode M_X1_addName.2.1 18 = .ok (.ifCond .ne 5, 3) := by decide +kernel
theorem d_X1_addName_21 : decode M_X1_addName.2.1 21 = .ok (.iconst 0, 1) := by decide +kernel
theorem d_X1_addName_22 : decode M_X1_addName.2.1 22 = .ok (.ireturn, 1) := by decide +kernel
theorem d_X1_addName_23 : decode M_X1_addName.2.1 23 = .ok (.iinc 3 1, 3) := by decide +kernel
theorem d_X1_addName_26 : decode M_X1_addName.2.1 26 = .ok (.goto (-24), 3) := by decide +kernel
theorem d_X1_addName_29 : decode M_X1_addName.2.1 29 = .ok (.aload_n 0, 1) := by decide +kernel
theorem d_X1_addName_30 : decode M_X1_addName.2.1 30 = .ok (.getfield 55, 3) := by decide +kernel
theorem d_X1_addName_33 : decode M_X1_addName.2.1 33 = .ok (.bipush 30, 2) := by decide +kernel
theorem d_X1_addName_35 : decode M_X1_addName.2.1 35 = .ok (.if_icmp .ge 23, 3) := by decide +kernel
theorem d_X1_addName_38 : decode M_X1_addName.2.1 38 = .ok (.aload_n 0, 1) := by decide +kernel
theorem d_X1_addName_39 : decode M_X1_addName.2.1 39 = .ok (.getfield 51, 3) := by decide +kernel
theorem d_X1_addName_42 : decode M_X1_addName.2.1 42 = .ok (.aload_n 0, 1) := by decide +kernel
theorem d_X1_addName_43 : decode M_X1_addName.2.1 43 = .ok (.getfield 55, 3) := by decide +kernel
theorem d_X1_addName_46 : decode M_X1_addName.2.1 46 = .ok (.lload_n 1, 1) := by decide +kernel
theorem d_X1_addName_47 : decode M_X1_addName.2.1 47 = .ok (.lastore, 1) := by decide +kernel
theorem d_X1_addName_48 : decode M_X1_addName.2.1 48 = .ok (.aload_n 0, 1) := by decide +kernel
theorem d_X1_addName_49 : decode M_X1_addName.2.1 49 = .ok (.dup, 1) := by decide +kernel
theorem d_X1_addName_50 : decode M_X1_addName.2.1 50 = .ok (.getfield 55, 3) := by decide +kernel
theorem d_X1_addName_53 : decode M_X1_addName.2.1 53 = .ok (.iconst 1, 1) := by decide +kernel
theorem d_X1_addName_54 : decode M_X1_addName.2.1 54 = .ok (.iadd, 1) := by decide +kernel
theorem d_X1_addName_55 : decode M_X1_addName.2.1 55 = .ok (.putfield 55, 3) := by decide +kernel
theorem d_X1_addName_58 : decode M_X1_addName.2.1 58 = .ok (.iconst 1, 1) := by decide +kernel
theorem d_X1_addName_59 : decode M_X1_addName.2.1 59 = .ok (.ireturn, 1) := by decide +kernel
theorem ce_X1_addName : zw_CeV M_X1_addName 1 := ⟨⟨⟨by decide +kernel, by decide +kernel, by decide +kernel⟩, (zw_mG (List.mem_of_getElem? (i := 730) (by decide +kernel)) rfl), (zw_mG (List.mem_of_getElem? (i := 99) (by decide +kernel)) rfl), by decide, by decide +kernel⟩, (zw_mG (List.mem_of_getElem? (i := 728) (by decide +kernel)) rfl), (zw_mG (List.mem_of_getElem? (i := 729) (by decide +kernel)) rfl)⟩
def s_X1_addName_2 (v0 : Nat) (v1 : Int64) (I : zI) (R : zR) (J : zJ) (s : Int32) : Option ((Int32) ⊕ ((Unit) ⊕ (Unit))) :=
  zw_g (zw_gc v0 1) (if (I v0 11) ≤ s then some (.inr (.inl ())) else zw_g (zw_gc (R v0 10) 14) (zw_g (zw_in s (zw_SH (R v0 10)).2) (if ¬ (lg_cmp (J (R v0 10) (Int32.toNatClampNeg s)) v1) = 0 then zw_let (s + 1 : Int32) fun x6 => (some (.inl x6)) else some (.inr (.inr ())))))
theorem s_X1_addName_2_ok (X : zw_X) (P : Option Value → aS → Prop) (v0 : Nat) (v1 : Int64) (I : zI) (R : zR) (J : zJ) (s : Int32) (o : (Int32) ⊕ ((Unit) ⊕ (Unit))) (hf : s_X1_addName_2 v0 v1 I R J s = some o) (hk : (zw_se (fun t => zy_V X M_X1_addName 0 P 2 [.ref v0, .long v1, .null, .int t] [] (I, R, J)) (fun r => (zw_se (fun r0 => zy_V X M_X1_addName 0 P 29 [.ref v0, .long v1, .null, .null] [] (I, R, J)) (fun t0 => zy_V X M_X1_addName 0 P 21 [.null, .null, .null, .null] [] (I, R, J)) r)) o)) : zy_V X M_X1_addName 0 P 2 [.ref v0, .long v1, .null, .int s] [] (I, R, J) := by
  unfold s_X1_addName_2 at hf
  refine zv_iload_n (pc := 2) d_X1_addName_2 rfl ?_
  refine zv_aload_n (pc := 3) d_X1_addName_3 rfl ?_
  obtain ⟨g1, hf⟩ := zw_gcE hf (by decide)
  refine zx_getI (pc := 4) d_X1_addName_4 lk_CutStones_House_55 (by decide) g1 ?_
  rcases zw_ifE hf with ⟨c2, hf⟩ | ⟨c2, hf⟩
  · refine zv_icmp_ge (pc := 7) (tg := 29) d_X1_addName_7 (by decide) (fun _ => ?_) (fun q => absurd c2 q)
    cases hf
    exact zx_weak (zw_leS (zw_leS (zw_leN (zw_leN zw_leZ)))) hk
  · refine zv_icmp_ge (pc := 7) (tg := 29) d_X1_addName_7 (by decide) (fun q => absurd q c2) (fun _ => ?_)
    refine zv_aload_n (pc := 10) d_X1_addName_10 rfl ?_
    obtain ⟨g3, hf⟩ := zw_gcE hf (by decide)
    refine zx_getR (pc := 11) d_X1_addName_11 lk_CutStones_House_51 (by decide) g1 g3 ?_
    refine zv_iload_n (pc := 14) d_X1_addName_14 rfl ?_
    obtain ⟨i4, hf⟩ := zw_inE hf
    refine zx_lald (pc := 15) d_X1_addName_15 g3 i4 ?_
    refine zv_lload_n (pc := 16) d_X1_addName_16 rfl ?_
    refine zv_lcmp (pc := 17) d_X1_addName_17 ?_
    rcases zw_ifE hf with ⟨c5, hf⟩ | ⟨c5, hf⟩
    · refine zv_if_ne (pc := 18) (tg := 23) d_X1_addName_18 (by decide) (fun _ => ?_) (fun q => absurd q c5)
      obtain ⟨x6, ex6, hf⟩ := zw_letE hf
      refine zx_iinc (pc := 23) (x2 := x6) (L2 := [.ref v0, .long v1, .null, .int x6]) d_X1_addName_23 (by decide) rfl zc_i_1 ex6 rfl ?_
      refine zv_goto (pc := 26) (tg := 2) d_X1_addName_26 (by decide) ?_
      cases hf
      exact zx_weak (zw_leS (zw_leS (zw_leN (zw_leS zw_leZ)))) hk
    · refine zv_if_ne (pc := 18) (tg := 23) d_X1_addName_18 (by decide) (fun q => absurd q c5) (fun _ => ?_)
      cases hf
      exact zx_weak (zw_leN (zw_leN (zw_leN (zw_leN zw_leZ)))) hk
theorem s_X1_addName_2_lp (X : zw_X) (P : Option Value → aS → Prop) (v0 : Nat) (v1 : Int64) (I : zI) (R : zR) (J : zJ) (n : Nat) (s : Int32) (r : (Unit) ⊕ (Unit)) (h : zw_it (s_X1_addName_2 v0 v1 I R J) n s = some r) (hq : (zw_se (fun r0 => zy_V X M_X1_addName 0 P 29 [.ref v0, .long v1, .null, .null] [] (I, R, J)) (fun t0 => zy_V X M_X1_addName 0 P 21 [.null, .null, .null, .null] [] (I, R, J)) r)) : zy_V X M_X1_addName 0 P 2 [.ref v0, .long v1, .null, .int s] [] (I, R, J) :=
  zw_itE (A := (fun t : Int32 => zy_V X M_X1_addName 0 P 2 [.ref v0, .long v1, .null, .int t] [] (I, R, J))) (Q := (fun r : (Unit) ⊕ (Unit) => (zw_se (fun r0 => zy_V X M_X1_addName 0 P 29 [.ref v0, .long v1, .null, .null] [] (I, R, J)) (fun t0 => zy_V X M_X1_addName 0 P 21 [.null, .null, .null, .null] [] (I, R, J)) r))) (fun s o h1 h2 => s_X1_addName_2_ok X P v0 v1 I R J s o h1 h2) n s r h hq
def f_X1_addName (v0 : Nat) (v1 : Int64) (I : zI) (R : zR) (J : zJ) : Option (Int32 × zI × zJ) :=
  (zw_it (s_X1_addName_2 v0 v1 I R J) 1000000 0).bind fun q7 => (match q7 with | .inl a8 => (zw_g (zw_gc v0 1) (if 30 ≤ (I v0 11) then some (1, I, J) else zw_g (zw_gc (R v0 10) 14) (zw_g (zw_in (I v0 11) (zw_SH (R v0 10)).2) (zw_let (zw_u J (R v0 10) (Int32.toNatClampNeg (I v0 11)) v1 : zJ) fun J14 => (zw_let (zw_u I v0 11 ((I v0 11) + 1) : zI) fun I15 => (some (1, I15, J14))))))) | .inr a9 => (some (0, I, J)))
theorem c_X1_addName (X : zw_X) (v0 : Nat) (v1 : Int64) (I : zI) (R : zR) (J : zJ) {P : Option Value → aS → Prop} (o : Int32 × zI × zJ) (hf : f_X1_addName v0 v1 I R J = some o) (hk : P (some (.int o.1)) (o.2.1, R, o.2.2)) : zw_C X M_X1_addName 0 0 0 199 [.ref v0, .long v1] (I, R, J) P := by
  show zy_V X M_X1_addName 0 P 0 [.ref v0, .long v1, .null, .null] [] (I, R, J)
  unfold f_X1_addName at hf
  refine zv_iconst (pc := 0) d_X1_addName_0 zc_i_0 ?_
  refine zx_istore_n (pc := 1) (x2 := 0) (L2 := [.ref v0, .long v1, .null, .int 0]) d_X1_addName_1 (by decide) rfl rfl ?_
  obtain ⟨q7, hq7, hf⟩ := zw_bdE hf
  refine zx_weak (L' := [.ref v0, .long v1, .null, .int 0]) (zw_leS (zw_leS (zw_leN (zw_leS zw_leZ)))) (s_X1_addName_2_lp X P v0 v1 I R J _ _ _ hq7 ?_)
  rcases q7 with a8 | a9
  ·
    show zy_V X M_X1_addName 0 P 29 [.ref v0, .long v1, .null, .null] [] (I, R, J)
    refine zv_aload_n (pc := 29) d_X1_addName_29 rfl ?_
    obtain ⟨g10, hf⟩ := zw_gcE hf (by decide)
    refine zx_getI (pc := 30) d_X1_addName_30 lk_CutStones_House_55 (by decide) g10 ?_
    refine zv_bipush (pc := 33) d_X1_addName_33 zc_b_30 ?_
    rcases zw_ifE hf with ⟨c11, hf⟩ | ⟨c11, hf⟩
    · refine zv_icmp_ge (pc := 35) (tg := 58) d_X1_addName_35 (by decide) (fun _ => ?_) (fun q => absurd c11 q)
      refine zv_iconst (pc := 58) d_X1_addName_58 zc_i_1 ?_
      cases hf
      exact zx_zret (pc := 59) d_X1_addName_59 rfl (Or.inr rfl) hk
    · refine zv_icmp_ge (pc := 35) (tg := 58) d_X1_addName_35 (by decide) (fun q => absurd q c11) (fun _ => ?_)
      refine zv_aload_n (pc := 38) d_X1_addName_38 rfl ?_
      obtain ⟨g12, hf⟩ := zw_gcE hf (by decide)
      refine zx_getR (pc := 39) d_X1_addName_39 lk_CutStones_House_51 (by decide) g10 g12 ?_
      refine zv_aload_n (pc := 42) d_X1_addName_42 rfl ?_
      refine zx_getI (pc := 43) d_X1_addName_43 lk_CutStones_House_55 (by decide) g10 ?_
      refine zv_lload_n (pc := 46) d_X1_addName_46 rfl ?_
      obtain ⟨i13, hf⟩ := zw_inE hf
      obtain ⟨J14, eJ14, hf⟩ := zw_letE hf
      refine zx_last (pc := 47) (J2 := J14) d_X1_addName_47 g12 i13 eJ14 ?_
      refine zv_aload_n (pc := 48) d_X1_addName_48 rfl ?_
      refine zv_dup (pc := 49) d_X1_addName_49 rfl ?_
      refine zx_getI (pc := 50) d_X1_addName_50 lk_CutStones_House_55 (by decide) g10 ?_
      refine zv_iconst (pc := 53) d_X1_addName_53 zc_i_1 ?_
      refine zv_iadd (pc := 54) d_X1_addName_54 ?_
      obtain ⟨I15, eI15, hf⟩ := zw_letE hf
      refine zx_putI (pc := 55) (I2 := I15) d_X1_addName_55 lk_CutStones_House_55 rfl g10 eI15 ?_
      refine zv_iconst (pc := 58) d_X1_addName_58 zc_i_1 ?_
      cases hf
      exact zx_zret (pc := 59) d_X1_addName_59 rfl (Or.inr rfl) hk
  ·
    show zy_V X M_X1_addName 0 P 21 [.null, .null, .null, .null] [] (I, R, J)
    refine zv_iconst (pc := 21) d_X1_addName_21 zc_i_0 ?_
    cases hf
    exact zx_zret (pc := 22) d_X1_addName_22 rfl (Or.inl rfl) hk
abbrev M_X1_addPrice : zw_M := (⟨"CutStones$House", "addPrice", "()LCutStones$Rule;"⟩, prog_3_method_7_code, 2, (Option.some (Jvm.ClassFile.FieldType.object "CutStones$Rule")))
theorem d_X1_addPrice_0 : decode M_X1_addPrice.2.1 0 = .ok (.aload_n 0, 1) := by decide +kernel
theorem d_X1_addPrice_1 : decode M_X1_addPrice.2.1 1 = .ok (.getfield 45, 3) := by decide +kernel
theorem d_X1_addPrice_4 : decode M_X1_addPrice.2.1 4 = .ok (.aload_n 0, 1) := by decide +kernel
theorem d_X1_addPrice_5 : decode M_X1_addPrice.2.1 5 = .ok (.getfield 48, 3) := by decide +kernel
theorem d_X1_addPrice_8 : decode M_X1_addPrice.2.1 8 = .ok (.aaload, 1) := by decide +kernel
theorem d_X1_addPrice_9 : decode M_X1_addPrice.2.1 9 = .ok (.astore_n 1, 1) := by decide +kernel
theorem d_X1_addPrice_10 : decode M_X1_addPrice.2.1 10 = .ok (.aload_n 0, 1) := by decide +kernel
theorem d_X1_addPrice_11 : decode M_X1_addPrice.2.1 11 = .ok (.dup, 1) := by decide +kernel
theorem d_X1_addPrice_12 : decode M_X1_addPrice.2.1 12 = .ok (.getfield 48, 3) := by decide +kernel
theorem d_X1_addPrice_15 : decode M_X1_addPrice.2.1 15 = .ok (.iconst 1, 1) := by decide +kernel
theorem d_X1_addPrice_16 : decode M_X1_addPrice.2.1 16 = .ok (.iadd, 1) := by decide +kernel
theorem d_X1_addPrice_17 : decode M_X1_addPrice.2.1 17 = .ok (.putfield 48, 3) := by decide +kernel
theorem d_X1_addPrice_20 : decode M_X1_addPrice.2.1 20 = .ok (.aload_n 1, 1) := by decide +kernel
theorem d_X1_addPrice_21 : decode M_X1_addPrice.2.1 21 = .ok (.areturn, 1) := by decide +kernel
theorem ce_X1_addPrice : zw_CeV M_X1_addPrice 0 := ⟨⟨⟨by decide +kernel, by decide +kernel, by decide +kernel⟩, (zw_mG (List.mem_of_getElem? (i := 808) (by decide +kernel)) rfl), (zw_mG (List.mem_of_getElem? (i := 99) (by decide +kernel)) rfl), by decide, by decide +kernel⟩, (zw_mG (List.mem_of_getElem? (i := 806) (by decide +kernel)) rfl), (zw_mG (List.mem_of_getElem? (i := 807) (by decide +kernel)) rfl)⟩
def f_X1_addPrice (v0 : Nat) (I : zI) (R : zR) : Option (Nat × zI) :=
  zw_g (zw_gc v0 1) (zw_g (zw_gc (R v0 8) 17) (zw_g (zw_in (I v0 9) (zw_SH (R v0 8)).2) (zw_g (zw_gc (R (R v0 8) (Int32.toNatClampNeg (I v0 9))) 5) (zw_let (zw_u I v0 9 ((I v0 9) + 1) : zI) fun I5 => (some ((R (R v0 8) (Int32.toNatClampNeg (I v0 9))), I5))))))
theorem c_X1_addPrice (X : zw_X) (v0 : Nat) (I : zI) (R : zR) (J : zJ) {P : Option Value → aS → Prop} (o : Nat × zI) (hf : f_X1_addPrice v0 I R = some o) (hk : P (some (.ref o.1)) (o.2, R, J)) : zw_C X M_X1_addPrice 0 0 0 199 [.ref v0] (I, R, J) P := by
  show zy_V X M_X1_addPrice 0 P 0 [.ref v0, .null] [] (I, R, J)
  unfold f_X1_addPrice at hf
  refine zv_aload_n (pc := 0) d_X1_addPrice_0 rfl ?_
  obtain ⟨g1, hf⟩ := zw_gcE hf (by decide)
  obtain ⟨g2, hf⟩ := zw_gcE hf (by decide)
  refine zx_getR (pc := 1) d_X1_addPrice_1 lk_CutStones_House_45 (by decide) g1 g2 ?_
  refine zv_aload_n (pc := 4) d_X1_addPrice_4 rfl ?_
  refine zx_getI (pc := 5) d_X1_addPrice_5 lk_CutStones_House_48 (by decide) g1 ?_
  obtain ⟨i3, hf⟩ := zw_inE hf
  obtain ⟨g4, hf⟩ := zw_gcE hf (by decide)
  refine zx_aald (pc := 8) d_X1_addPrice_8 g2 (by decide) i3 g4 ?_
  refine zx_astore_n (pc := 9) (L2 := [.ref v0, .ref (R (R v0 8) (Int32.toNatClampNeg (I v0 9)))]) d_X1_addPrice_9 (by decide) rfl ?_
  refine zv_aload_n (pc := 10) d_X1_addPrice_10 rfl ?_
  refine zv_dup (pc := 11) d_X1_addPrice_11 rfl ?_
  refine zx_getI (pc := 12) d_X1_addPrice_12 lk_CutStones_House_48 (by decide) g1 ?_
  refine zv_iconst (pc := 15) d_X1_addPrice_15 zc_i_1 ?_
  refine zv_iadd (pc := 16) d_X1_addPrice_16 ?_
  obtain ⟨I5, eI5, hf⟩ := zw_letE hf
  refine zx_putI (pc := 17) (I2 := I5) d_X1_addPrice_17 lk_CutStones_House_48 rfl g1 eI5 ?_
  refine zv_aload_n (pc := 20) d_X1_addPrice_20 rfl ?_
  cases hf
  exact zx_aret (pc := 21) d_X1_addPrice_21 rfl hk
abbrev M_X1_addStuff : zw_M := (⟨"CutStones$House", "addStuff", "()LCutStones$Stuff;"⟩, prog_3_method_3_code, 2, (Option.some (Jvm.ClassFile.FieldType.object "CutStones$Stuff")))
theorem d_X1_addStuff_0 : decode M_X1_addStuff.2.1 0 = .ok (.aload_n 0, 1) := by decide +kernel
theorem d_X1_addStuff_1 : decode M_X1_addStuff.2.1 1 = .ok (.getfield 11, 3) := by decide +kernel
theorem d_X1_addStuff_4 : decode M_X1_addStuff.2.1 4 = .ok (.aload_n 0, 1) := by decide +kernel
theorem d_X1_addStuff_5 : decode M_X1_addStuff.2.1 5 = .ok (.getfield 17, 3) := by decide +kernel
theorem d_X1_addStuff_8 : decode M_X1_addStuff.2.1 8 = .ok (.aaload, 1) := by decide +kernel
theorem d_X1_addStuff_9 : decode M_X1_addStuff.2.1 9 = .ok (.astore_n 1, 1) := by decide +kernel
theorem d_X1_addStuff_10 : decode M_X1_addStuff.2.1 10 = .ok (.aload_n 0, 1) := by decide +kernel
theorem d_X1_addStuff_11 : decode M_X1_addStuff.2.1 11 = .ok (.dup, 1) := by decide +kernel
theorem d_X1_addStuff_12 : decode M_X1_addStuff.2.1 12 = .ok (.getfield 17, 3) := by decide +kernel
theorem d_X1_addStuff_15 : decode M_X1_addStuff.2.1 15 = .ok (.iconst 1, 1) := by decide +kernel
theorem d_X1_addStuff_16 : decode M_X1_addStuff.2.1 16 = .ok (.iadd, 1) := by decide +kernel
theorem d_X1_addStuff_17 : decode M_X1_addStuff.2.1 17 = .ok (.putfield 17, 3) := by decide +kernel
theorem d_X1_addStuff_20 : decode M_X1_addStuff.2.1 20 = .ok (.aload_n 1, 1) := by decide +kernel
theorem d_X1_addStuff_21 : decode M_X1_addStuff.2.1 21 = .ok (.sipush 200, 3) := by decide +kernel
theorem d_X1_addStuff_24 : decode M_X1_addStuff.2.1 24 = .ok (.putfield 71, 3) := by decide +kernel
theorem d_X1_addStuff_27 : decode M_X1_addStuff.2.1 27 = .ok (.aload_n 1, 1) := by decide +kernel
theorem d_X1_addStuff_28 : decode M_X1_addStuff.2.1 28 = .ok (.areturn, 1) := by decide +kernel
theorem ce_X1_addStuff : zw_CeV M_X1_addStuff 0 := ⟨⟨⟨by decide +kernel, by decide +kernel, by decide +kernel⟩, (zw_mG (List.mem_of_getElem? (i := 816) (by decide +kernel)) rfl), (zw_mG (List.mem_of_getElem? (i := 99) (by decide +kernel)) rfl), by decide, by decide +kernel⟩, (zw_mG (List.mem_of_getElem? (i := 814) (by decide +kernel)) rfl), (zw_mG (List.mem_of_getElem? (i := 815) (by decide +kernel)) rfl)⟩
def f_X1_addStuff (v0 : Nat) (I : zI) (R : zR) : Option (Nat × zI) :=
  zw_g (zw_gc v0 1) (zw_g (zw_gc (R v0 0) 18) (zw_g (zw_in (I v0 1) (zw_SH (R v0 0)).2) (zw_g (zw_gc (R (R v0 0) (Int32.toNatClampNeg (I v0 1))) 7) (zw_let (zw_u I v0 1 ((I v0 1) + 1) : zI) fun I5 => (zw_let (zw_u I5 (R (R v0 0) (Int32.toNatClampNeg (I v0 1))) 2 200 : zI) fun I6 => (some ((R (R v0 0) (Int32.toNatClampNeg (I v0 1))), I6)))))))
theorem c_X1_addStuff (X : zw_X) (v0 : Nat) (I : zI) (R : zR) (J : zJ) {P : Option Value → aS → Prop} (o : Nat × zI) (hf : f_X1_addStuff v0 I R = some o) (hk : P (some (.ref o.1)) (o.2, R, J)) : zw_C X M_X1_addStuff 0 0 0 199 [.ref v0] (I, R, J) P := by
  show zy_V X M_X1_addStuff 0 P 0 [.ref v0, .null] [] (I, R, J)
  unfold f_X1_addStuff at hf
  refine zv_aload_n (pc := 0) d_X1_addStuff_0 rfl ?_
  obtain ⟨g1, hf⟩ := zw_gcE hf (by decide)
  obtain ⟨g2, hf⟩ := zw_gcE hf (by decide)
  refine zx_getR (pc := 1) d_X1_addStuff_1 lk_CutStones_House_11 (by decide) g1 g2 ?_
  refine zv_aload_n (pc := 4) d_X1_addStuff_4 rfl ?_
  refine zx_getI (pc := 5) d_X1_addStuff_5 lk_CutStones_House_17 (by decide) g1 ?_
  obtain ⟨i3, hf⟩ := zw_inE hf
  obtain ⟨g4, hf⟩ := zw_gcE hf (by decide)
  refine zx_aald (pc := 8) d_X1_addStuff_8 g2 (by decide) i3 g4 ?_
  refine zx_astore_n (pc := 9) (L2 := [.ref v0, .ref (R (R v0 0) (Int32.toNatClampNeg (I v0 1)))]) d_X1_addStuff_9 (by decide) rfl ?_
  refine zv_aload_n (pc := 10) d_X1_addStuff_10 rfl ?_
  refine zv_dup (pc := 11) d_X1_addStuff_11 rfl ?_
  refine zx_getI (pc := 12) d_X1_addStuff_12 lk_CutStones_House_17 (by decide) g1 ?_
  refine zv_iconst (pc := 15) d_X1_addStuff_15 zc_i_1 ?_
  refine zv_iadd (pc := 16) d_X1_addStuff_16 ?_
  obtain ⟨I5, eI5, hf⟩ := zw_letE hf
  refine zx_putI (pc := 17) (I2 := I5) d_X1_addStuff_17 lk_CutStones_House_17 rfl g1 eI5 ?_
  refine zv_aload_n (pc := 20) d_X1_addStuff_20 rfl ?_
  refine zv_sipush (pc := 21) d_X1_addStuff_21 zc_s_200 ?_
  obtain ⟨I6, eI6, hf⟩ := zw_letE hf
  refine zx_putI (pc := 24) (I2 := I6) d_X1_addStuff_24 lk_CutStones_House_71 rfl g4 eI6 ?_
  refine zv_aload_n (pc := 27) d_X1_addStuff_27 rfl ?_
  cases hf
  exact zx_aret (pc := 28) d_X1_addStuff_28 rfl hk
abbrev M_X1_empty : zw_M := (⟨"CutStones$House", "empty", "()V"⟩, prog_3_method_2_code, 1, (Option.none : Option Jvm.ClassFile.FieldType))
theorem d_X1_empty_0 : decode M_X1_empty.2.1 0 = .ok (.aload_n 0, 1) := by decide +kernel
theorem d_X1_empty_1 : decode M_X1_empty.2.1 1 = .ok (.iconst 0, 1) := by decide +kernel
theorem d_X1_empty_2 : decode M_X1_empty.2.1 2 = .ok (.putfield 17, 3) := by decide +kernel
theorem d_X1_empty_5 : decode M_X1_empty.2.1 5 = .ok (.aload_n 0, 1) := by decide +kernel
theorem d_X1_empty_6 : decode M_X1_empty.2.1 6 = .ok (.iconst 0, 1) := by decide +kernel
theorem d_X1_empty_7 : decode M_X1_empty.2.1 7 = .ok (.putfield 27, 3) := by decide +kernel
theorem d_X1_empty_10 : decode M_X1_empty.2.1 10 = .ok (.aload_n 0, 1) := by decide +kernel
theorem d_X1_empty_11 : decode M_X1_empty.2.1 11 = .ok (.iconst 0, 1) := by decide +kernel
theorem d_X1_empty_12 : decode M_X1_empty.2.1 12 = .ok (.putfield 33, 3) := by decide +kernel
theorem d_X1_empty_15 : decode M_X1_empty.2.1 15 = .ok (.aload_n 0, 1) := by decide +kernel
theorem d_X1_empty_16 : decode M_X1_empty.2.1 16 = .ok (.iconst 0, 1) := by decide +kernel
theorem d_X1_empty_17 : decode M_X1_empty.2.1 17 = .ok (.putfield 42, 3) := by decide +kernel
theorem d_X1_empty_20 : decode M_X1_empty.2.1 20 = .ok (.aload_n 0, 1) := by decide +kernel
theorem d_X1_empty_21 : decode M_X1_empty.2.1 21 = .ok (.iconst 0, 1) := by decide +kernel
theorem d_X1_empty_22 : decode M_X1_empty.2.1 22 = .ok (.putfield 48, 3) := by decide +kernel
theorem d_X1_empty_25 : decode M_X1_empty.2.1 25 = .ok (.aload_n 0, 1) := by decide +kernel
theorem d_X1_empty_26 : decode M_X1_empty.2.1 26 = .ok (.iconst 0, 1) := by decide +kernel
theorem d_X1_empty_27 : decode M_X1_empty.2.1 27 = .ok (.putfield 55, 3) := by decide +kernel
theorem d_X1_empty_30 : decode M_X1_empty.2.1 30 = .ok (.aload_n 0, 1) := by decide +kernel
theorem d_X1_empty_31 : decode M_X1_empty.2.1 31 = .ok (.iconst 0, 1) := by decide +kernel
theorem d_X1_empty_32 : decode M_X1_empty.2.1 32 = .ok (.putfield 65, 3) := by decide +kernel
theorem d_X1_empty_35 : decode M_X1_empty.2.1 35 = .ok (.return_, 1) := by decide +kernel
theorem ce_X1_empty : zw_CeV M_X1_empty 0 := ⟨⟨⟨by decide +kernel, by decide +kernel, by decide +kernel⟩, (zw_mG (List.mem_of_getElem? (i := 702) (by decide +kernel)) rfl), (zw_mG (List.mem_of_getElem? (i := 99) (by decide +kernel)) rfl), by decide, by decide +kernel⟩, (zw_mG (List.mem_of_getElem? (i := 700) (by decide +kernel)) rfl), (zw_mG (List.mem_of_getElem? (i := 701) (by decide +kernel)) rfl)⟩
def f_X1_empty (v0 : Nat) (I : zI) : Option (zI) :=
  zw_g (zw_gc v0 1) (zw_let (zw_u I v0 1 0 : zI) fun I2 => (zw_let (zw_u I2 v0 3 0 : zI) fun I3 => (zw_let (zw_u I3 v0 5 0 : zI) fun I4 => (zw_let (zw_u I4 v0 7 0 : zI) fun I5 => (zw_let (zw_u I5 v0 9 0 : zI) fun I6 => (zw_let (zw_u I6 v0 11 0 : zI) fun I7 => (zw_let (zw_u I7 v0 14 0 : zI) fun I8 => (some I8))))))))
theorem c_X1_empty (X : zw_X) (v0 : Nat) (I : zI) (R : zR) (J : zJ) {P : Option Value → aS → Prop} (o : zI) (hf : f_X1_empty v0 I = some o) (hk : P none (o, R, J)) : zw_C X M_X1_empty 0 0 0 199 [.ref v0] (I, R, J) P := by
  show zy_V X M_X1_empty 0 P 0 [.ref v0] [] (I, R, J)
  unfold f_X1_empty at hf
  refine zv_aload_n (pc := 0) d_X1_empty_0 rfl ?_
  refine zv_iconst (pc := 1) d_X1_empty_1 zc_i_0 ?_
  obtain ⟨g1, hf⟩ := zw_gcE hf (by decide)
  obtain ⟨I2, eI2, hf⟩ := zw_letE hf
  refine zx_putI (pc := 2) (I2 := I2) d_X1_empty_2 lk_CutStones_House_17 rfl g1 eI2 ?_
  refine zv_aload_n (pc := 5) d_X1_empty_5 rfl ?_
  refine zv_iconst (pc := 6) d_X1_empty_6 zc_i_0 ?_
  obtain ⟨I3, eI3, hf⟩ := zw_letE hf
  refine zx_putI (pc := 7) (I2 := I3) d_X1_empty_7 lk_CutStones_House_27 rfl g1 eI3 ?_
  refine zv_aload_n (pc := 10) d_X1_empty_10 rfl ?_
  refine zv_iconst (pc := 11) d_X1_empty_11 zc_i_0 ?_
  obtain ⟨I4, eI4, hf⟩ := zw_letE hf
  refine zx_putI (pc := 12) (I2 := I4) d_X1_empty_12 lk_CutStones_House_33 rfl g1 eI4 ?_
  refine zv_aload_n (pc := 15) d_X1_empty_15 rfl ?_
  refine zv_iconst (pc := 16) d_X1_empty_16 zc_i_0 ?_
  obtain ⟨I5, eI5, hf⟩ := zw_letE hf
  refine zx_putI (pc := 17) (I2 := I5) d_X1_empty_17 lk_CutStones_House_42 rfl g1 eI5 ?_
  refine zv_aload_n (pc := 20) d_X1_empty_20 rfl ?_
  refine zv_iconst (pc := 21) d_X1_empty_21 zc_i_0 ?_
  obtain ⟨I6, eI6, hf⟩ := zw_letE hf
  refine zx_putI (pc := 22) (I2 := I6) d_X1_empty_22 lk_CutStones_House_48 rfl g1 eI6 ?_
  refine zv_aload_n (pc := 25) d_X1_empty_25 rfl ?_
  refine zv_iconst (pc := 26) d_X1_empty_26 zc_i_0 ?_
  obtain ⟨I7, eI7, hf⟩ := zw_letE hf
  refine zx_putI (pc := 27) (I2 := I7) d_X1_empty_27 lk_CutStones_House_55 rfl g1 eI7 ?_
  refine zv_aload_n (pc := 30) d_X1_empty_30 rfl ?_
  refine zv_iconst (pc := 31) d_X1_empty_31 zc_i_0 ?_
  obtain ⟨I8, eI8, hf⟩ := zw_letE hf
  refine zx_putI (pc := 32) (I2 := I8) d_X1_empty_32 lk_CutStones_House_65 rfl g1 eI8 ?_
  cases hf
  exact zx_vret (pc := 35) d_X1_empty_35 rfl hk
abbrev M_X2_goOut : zw_M := (⟨"CutStones$Light", "goOut", "(I)V"⟩, prog_4_method_6_code, 3, (Option.none : Option Jvm.ClassFile.FieldType))
theorem d_X2_goOut_0 : decode M_X2_goOut.2.1 0 = .ok (.aload_n 0, 1) := by decide +kernel
theorem d_X2_goOut_1 : decode M_X2_goOut.2.1 1 = .ok (.getfield 46, 3) := by decide +kernel
theorem d_X2_goOut_4 : decode M_X2_goOut.2.1 4 = .ok (.iload_n 1, 1) := by decide +kernel
theorem d_X2_goOut_5 : decode M_X2_goOut.2.1 5 = .ok (.imul, 1) := by decide +kernel
theorem d_X2_goOut_6 : decode M_X2_goOut.2.1 6 = .ok (.sipush 1000, 3) := by decide +kernel
theorem d_X2_goOut_9 : decode M_X2_goOut.2.1 9 = .ok (.idiv, 1) := by decide +kernel
theorem d_X2_goOut_10 : decode M_X2_goOut.2.1 10 = .ok (.istore_n 2, 1) := by decide +kernel
theorem d_X2_goOut_11 : decode M_X2_goOut.2.1 11 = .ok (.aload_n 0, 1) := by decide +kernel
theorem d_X2_goOut_12 : decode M_X2_goOut.2.1 12 = .ok (.getfield 19, 3) := by decide +kernel
theorem d_X2_goOut_15 : decode M_X2_goOut.2.1 15 = .ok (.aload_n 0, 1) := by decide +kernel
theorem d_X2_goOut_16 : decode M_X2_goOut.2.1 16 = .ok (.getfield 43, 3) := by decide +kernel
theorem d_X2_goOut_19 : decode M_X2_goOut.2.1 19 = .ok (.dup2, 1) := by decide +kernel
theorem d_X2_goOut_20 : decode M_X2_goOut.2.1 20 = .ok (.iaload, 1) := by decide +kernel
theorem d_X2_goOut_21 : decode M_X2_goOut.2.1 21 = .ok (.iload_n 2, 1) := by decide +kernel
theorem d_X2_goOut_22 : decode M_X2_goOut.2.1 22 = .ok (.iadd, 1) := by decide +kernel
theorem d_X2_goOut_23 : decode M_X2_goOut.2.1 23 = .ok (.iastore, 1) := by decide +kernel
theorem d_X2_goOut_24 : decode M_X2_goOut.2.1 24 = .ok (.aload_n 0, 1) := by decide +kernel
theorem d_X2_goOut_25 : decode M_X2_goOut.2.1 25 = .ok (.getfield 43, 3) := by decide +kernel
theorem d_X2_goOut_28 : decode M_X2_goOut.2.1 28 = .ok (.ifCond .ne 16, 3) := by decide +kernel
theorem d_X2_goOut_31 : decode M_X2_goOut.2.1 31 = .ok (.aload_n 0, 1) := by decide +kernel
theorem d_X2_goOut_32 : decode M_X2_goOut.2.1 32 = .ok (.getfield 22, 3) := by decide +kernel
theorem d_X2_goOut_35 : decode M_X2_goOut.2.1 35 = .ok (.aload_n 0, 1) := by decide +kernel
theorem d_X2_goOut_36 : decode M_X2_goOut.2.1 36 = .ok (.getfield 37, 3) := by decide +kernel
theorem d_X2_goOut_39 : decode M_X2_goOut.2.1 39 = .ok (.dup2, 1) := by decide +kernel
theorem d_X2_goOut_40 : decode M_X2_goOut.2.1 40 = .ok (.iaload, 1) := by decide +kernel
theorem d_X2_goOut_41 : decode M_X2_goOut.2.1 41 = .ok (.iload_n 2, 1) := by decide +kernel
theorem d_X2_goOut_42 : decode M_X2_goOut.2.1 42 = .ok (.iadd, 1) := by decide +kernel
theorem d_X2_goOut_43 : decode M_X2_goOut.2.1 43 = .ok (.iastore, 1) := by decide +kernel
theorem d_X2_goOut_44 : decode M_X2_goOut.2.1 44 = .ok (.aload_n 0, 1) := by decide +kernel
theorem d_X2_goOut_45 : decode M_X2_goOut.2.1 45 = .ok (.dup, 1) := by decide +kernel
theorem d_X2_goOut_46 : decode M_X2_goOut.2.1 46 = .ok (.getfield 46, 3) := by decide +kernel
theorem d_X2_goOut_49 : decode M_X2_goOut.2.1 49 = .ok (.iload_n 2, 1) := by decide +kernel
theorem d_X2_goOut_50 : decode M_X2_goOut.2.1 50 = .ok (.isub, 1) := by decide +kernel
theorem d_X2_goOut_51 : decode M_X2_goOut.2.1 51 = .ok (.putfield 46, 3) := by decide +kernel
theorem d_X2_goOut_54 : decode M_X2_goOut.2.1 54 = .ok (.return_, 1) := by decide +kernel
theorem ce_X2_goOut : zw_CeV M_X2_goOut 1 := ⟨⟨⟨by decide +kernel, by decide +kernel, by decide +kernel⟩, (zw_mG (List.mem_of_getElem? (i := 919) (by decide +kernel)) rfl), (zw_mG (List.mem_of_getElem? (i := 103) (by decide +kernel)) rfl), by decide, by decide +kernel⟩, (zw_mG (List.mem_of_getElem? (i := 918) (by decide +kernel)) rfl), (zw_mG (List.mem_of_getElem? (i := 30) (by decide +kernel)) rfl)⟩
def j_X2_goOut_44 (v0 : Nat) (v2 : Int32) (I : zI) (R : zR) : Option (zI) :=
  zw_g (zw_gc v0 2) (zw_let (zw_u I v0 11 ((I v0 11) - v2) : zI) fun I9 => (some I9))
theorem j_X2_goOut_44_ok (X : zw_X) (P : Option Value → aS → Prop) (v0 : Nat) (v2 : Int32) (I : zI) (R : zR) (J : zJ) (o : zI) (hf : j_X2_goOut_44 v0 v2 I R = some o) (hk : P none (o, R, J)) : zy_V X M_X2_goOut 0 P 44 [.ref v0, .null, .int v2] [] (I, R, J) := by
  unfold j_X2_goOut_44 at hf
  refine zv_aload_n (pc := 44) d_X2_goOut_44 rfl ?_
  refine zv_dup (pc := 45) d_X2_goOut_45 rfl ?_
  obtain ⟨g8, hf⟩ := zw_gcE hf (by decide)
  refine zx_getI (pc := 46) d_X2_goOut_46 lk_CutStones_Light_46 (by decide) g8 ?_
  refine zv_iload_n (pc := 49) d_X2_goOut_49 rfl ?_
  refine zv_isub (pc := 50) d_X2_goOut_50 ?_
  obtain ⟨I9, eI9, hf⟩ := zw_letE hf
  refine zx_putI (pc := 51) (I2 := I9) d_X2_goOut_51 lk_CutStones_Light_46 rfl g8 eI9 ?_
  cases hf
  exact zx_vret (pc := 54) d_X2_goOut_54 rfl hk
def f_X2_goOut (v0 : Nat) (v1 : Int32) (I : zI) (R : zR) : Option (zI) :=
  zw_g (zw_gc v0 2) (zw_let ((((I v0 11) * v1) / 1000) : Int32) fun x2 => (zw_g (zw_gc (R v0 2) 13) (zw_g (zw_in (I v0 10) (zw_SH (R v0 2)).2) (zw_g (zw_in (I v0 10) (zw_SH (R v0 2)).2) (zw_let (zw_u I (R v0 2) (Int32.toNatClampNeg (I v0 10)) ((I (R v0 2) (Int32.toNatClampNeg (I v0 10))) + x2) : zI) fun I6 => (if ¬ (I6 v0 10) = 0 then j_X2_goOut_44 v0 x2 I6 R else zw_g (zw_gc (R v0 3) 13) (zw_g (zw_in (I6 v0 8) (zw_SH (R v0 3)).2) (zw_g (zw_in (I6 v0 8) (zw_SH (R v0 3)).2) (zw_let (zw_u I6 (R v0 3) (Int32.toNatClampNeg (I6 v0 8)) ((I6 (R v0 3) (Int32.toNatClampNeg (I6 v0 8))) + x2) : zI) fun I13 => (j_X2_goOut_44 v0 x2 I13 R))))))))))
theorem c_X2_goOut (X : zw_X) (v0 : Nat) (v1 : Int32) (I : zI) (R : zR) (J : zJ) {P : Option Value → aS → Prop} (o : zI) (hf : f_X2_goOut v0 v1 I R = some o) (hk : P none (o, R, J)) : zw_C X M_X2_goOut 0 0 0 199 [.ref v0, .int v1] (I, R, J) P := by
  show zy_V X M_X2_goOut 0 P 0 [.ref v0, .int v1, .null] [] (I, R, J)
  unfold f_X2_goOut at hf
  refine zv_aload_n (pc := 0) d_X2_goOut_0 rfl ?_
  obtain ⟨g1, hf⟩ := zw_gcE hf (by decide)
  refine zx_getI (pc := 1) d_X2_goOut_1 lk_CutStones_Light_46 (by decide) g1 ?_
  refine zv_iload_n (pc := 4) d_X2_goOut_4 rfl ?_
  refine zv_imul (pc := 5) d_X2_goOut_5 ?_
  refine zv_sipush (pc := 6) d_X2_goOut_6 zc_s_1000 ?_
  refine zv_idiv (pc := 9) d_X2_goOut_9 (by decide +kernel) ?_
  obtain ⟨x2, ex2, hf⟩ := zw_letE hf
  refine zx_istore_n (pc := 10) (x2 := x2) (L2 := [.ref v0, .int v1, .int x2]) d_X2_goOut_10 (by decide) ex2 rfl ?_
  refine zv_aload_n (pc := 11) d_X2_goOut_11 rfl ?_
  obtain ⟨g3, hf⟩ := zw_gcE hf (by decide)
  refine zx_getR (pc := 12) d_X2_goOut_12 lk_CutStones_Light_19 (by decide) g1 g3 ?_
  refine zv_aload_n (pc := 15) d_X2_goOut_15 rfl ?_
  refine zx_getI (pc := 16) d_X2_goOut_16 lk_CutStones_Light_43 (by decide) g1 ?_
  refine zv_dup2 (pc := 19) d_X2_goOut_19 rfl rfl ?_
  obtain ⟨i4, hf⟩ := zw_inE hf
  refine zx_iald (pc := 20) d_X2_goOut_20 g3 i4 ?_
  refine zv_iload_n (pc := 21) d_X2_goOut_21 rfl ?_
  refine zv_iadd (pc := 22) d_X2_goOut_22 ?_
  obtain ⟨i5, hf⟩ := zw_inE hf
  obtain ⟨I6, eI6, hf⟩ := zw_letE hf
  refine zx_iast (pc := 23) (I2 := I6) d_X2_goOut_23 g3 i5 eI6 ?_
  refine zv_aload_n (pc := 24) d_X2_goOut_24 rfl ?_
  refine zx_getI (pc := 25) d_X2_goOut_25 lk_CutStones_Light_43 (by decide) g1 ?_
  rcases zw_ifE hf with ⟨c7, hf⟩ | ⟨c7, hf⟩
  · refine zv_if_ne (pc := 28) (tg := 44) d_X2_goOut_28 (by decide) (fun _ => ?_) (fun q => absurd q c7)
    exact zx_weak (zw_leS (zw_leN (zw_leS zw_leZ))) (j_X2_goOut_44_ok X P v0 x2 I6 R J _ hf hk)
  · refine zv_if_ne (pc := 28) (tg := 44) d_X2_goOut_28 (by decide) (fun q => absurd q c7) (fun _ => ?_)
    refine zv_aload_n (pc := 31) d_X2_goOut_31 rfl ?_
    obtain ⟨g10, hf⟩ := zw_gcE hf (by decide)
    refine zx_getR (pc := 32) d_X2_goOut_32 lk_CutStones_Light_22 (by decide) g1 g10 ?_
    refine zv_aload_n (pc := 35) d_X2_goOut_35 rfl ?_
    refine zx_getI (pc := 36) d_X2_goOut_36 lk_CutStones_Light_37 (by decide) g1 ?_
    refine zv_dup2 (pc := 39) d_X2_goOut_39 rfl rfl ?_
    obtain ⟨i11, hf⟩ := zw_inE hf
    refine zx_iald (pc := 40) d_X2_goOut_40 g10 i11 ?_
    refine zv_iload_n (pc := 41) d_X2_goOut_41 rfl ?_
    refine zv_iadd (pc := 42) d_X2_goOut_42 ?_
    obtain ⟨i12, hf⟩ := zw_inE hf
    obtain ⟨I13, eI13, hf⟩ := zw_letE hf
    refine zx_iast (pc := 43) (I2 := I13) d_X2_goOut_43 g10 i12 eI13 ?_
    exact zx_weak (zw_leS (zw_leN (zw_leS zw_leZ))) (j_X2_goOut_44_ok X P v0 x2 I13 R J _ hf hk)
abbrev M_X3_exchange : zw_M := (⟨"CutStones$Reader", "exchange", "(LCutStones$House;)LCutStones$House;"⟩, prog_5_method_3_code, 3, (Option.some (Jvm.ClassFile.FieldType.object "CutStones$House")))
theorem d_X3_exchange_0 : decode M_X3_exchange.2.1 0 = .ok (.aload_n 0, 1) := by decide +kernel
theorem d_X3_exchange_1 : decode M_X3_exchange.2.1 1 = .ok (.getfield 21, 3) := by decide +kernel
theorem d_X3_exchange_4 : decode M_X3_exchange.2.1 4 = .ok (.astore_n 2, 1) := by decide +kernel
theorem d_X3_exchange_5 : decode M_X3_exchange.2.1 5 = .ok (.aload_n 0, 1) := by decide +kernel
theorem d_X3_exchange_6 : decode M_X3_exchange.2.1 6 = .ok (.aload_n 1, 1) := by decide +kernel
theorem d_X3_exchange_7 : decode M_X3_exchange.2.1 7 = .ok (.putfield 21, 3) := by decide +kernel
theorem d_X3_exchange_10 : decode M_X3_exchange.2.1 10 = .ok (.aload_n 2, 1) := by decide +kernel
theorem d_X3_exchange_11 : decode M_X3_exchange.2.1 11 = .ok (.areturn, 1) := by decide +kernel
theorem ce_X3_exchange : zw_CeV M_X3_exchange 1 := ⟨⟨⟨by decide +kernel, by decide +kernel, by decide +kernel⟩, (zw_mG (List.mem_of_getElem? (i := 828) (by decide +kernel)) rfl), (zw_mG (List.mem_of_getElem? (i := 98) (by decide +kernel)) rfl), by decide, by decide +kernel⟩, (zw_mG (List.mem_of_getElem? (i := 826) (by decide +kernel)) rfl), (zw_mG (List.mem_of_getElem? (i := 827) (by decide +kernel)) rfl)⟩
def f_X3_exchange (v0 : Nat) (v1 : Nat) (R : zR) : Option (Nat × zR) :=
  zw_g (zw_gc v0 3) (zw_g (zw_gc (R v0 2) 1) (zw_g (zw_gc v1 1) (zw_let (zw_u R v0 2 v1 : zR) fun R4 => (some ((R v0 2), R4)))))
theorem c_X3_exchange (X : zw_X) (v0 : Nat) (v1 : Nat) (I : zI) (R : zR) (J : zJ) {P : Option Value → aS → Prop} (o : Nat × zR) (hf : f_X3_exchange v0 v1 R = some o) (hk : P (some (.ref o.1)) (I, o.2, J)) : zw_C X M_X3_exchange 0 0 0 199 [.ref v0, .ref v1] (I, R, J) P := by
  show zy_V X M_X3_exchange 0 P 0 [.ref v0, .ref v1, .null] [] (I, R, J)
  unfold f_X3_exchange at hf
  refine zv_aload_n (pc := 0) d_X3_exchange_0 rfl ?_
  obtain ⟨g1, hf⟩ := zw_gcE hf (by decide)
  obtain ⟨g2, hf⟩ := zw_gcE hf (by decide)
  refine zx_getR (pc := 1) d_X3_exchange_1 lk_CutStones_Reader_21 (by decide) g1 g2 ?_
  refine zx_astore_n (pc := 4) (L2 := [.ref v0, .ref v1, .ref (R v0 2)]) d_X3_exchange_4 (by decide) rfl ?_
  refine zv_aload_n (pc := 5) d_X3_exchange_5 rfl ?_
  refine zv_aload_n (pc := 6) d_X3_exchange_6 rfl ?_
  obtain ⟨g3, hf⟩ := zw_gcE hf (by decide)
  obtain ⟨R4, eR4, hf⟩ := zw_letE hf
  refine zx_putR (pc := 7) (R2 := R4) d_X3_exchange_7 lk_CutStones_Reader_21 (by decide) g1 g3 eR4 ?_
  refine zv_aload_n (pc := 10) d_X3_exchange_10 rfl ?_
  cases hf
  exact zx_aret (pc := 11) d_X3_exchange_11 rfl hk
abbrev M_X3_kind : zw_M := (⟨"CutStones$Reader", "kind", "(LCutStones$Tape;)I"⟩, prog_5_method_4_code, 2, (Option.some Jvm.ClassFile.FieldType.int))
theorem d_X3_kind_0 : decode M_X3_kind.2.1 0 = .ok (.aload_n 0, 1) := by decide +kernel
theorem d_X3_kind_1 : decode M_X3_kind.2.1 1 = .ok (.getfield 9, 3) := by decide +kernel
theorem d_X3_kind_4 : decode M_X3_kind.2.1 4 = .ok (.ifCond .ne 15, 3) := by decide +kernel
theorem d_X3_kind_7 : decode M_X3_kind.2.1 7 = .ok (.aload_n 1, 1) := by decide +kernel
theorem d_X3_kind_8 : decode M_X3_kind.2.1 8 = .ok (.getfield 37, 3) := by decide +kernel
theorem d_X3_kind_11 : decode M_X3_kind.2.1 11 = .ok (.aload_n 0, 1) := by decide +kernel
theorem d_X3_kind_12 : decode M_X3_kind.2.1 12 = .ok (.getfield 25, 3) := by decide +kernel
theorem d_X3_kind_15 : decode M_X3_kind.2.1 15 = .ok (.iaload, 1) := by decide +kernel
theorem d_X3_kind_16 : decode M_X3_kind.2.1 16 = .ok (.goto 4, 3) := by decide +kernel
theorem d_X3_kind_19 : decode M_X3_kind.2.1 19 = .ok (.iconst 1, 1) := by decide +kernel
theorem d_X3_kind_20 : decode M_X3_kind.2.1 20 = .ok (.ireturn, 1) := by decide +kernel
theorem ce_X3_kind : zw_CeV M_X3_kind 1 := ⟨⟨⟨by decide +kernel, by decide +kernel, by decide +kernel⟩, (zw_mG (List.mem_of_getElem? (i := 749) (by decide +kernel)) rfl), (zw_mG (List.mem_of_getElem? (i := 98) (by decide +kernel)) rfl), by decide, by decide +kernel⟩, (zw_mG (List.mem_of_getElem? (i := 748) (by decide +kernel)) rfl), (zw_mG (List.mem_of_getElem? (i := 12) (by decide +kernel)) rfl)⟩
def f_X3_kind (v0 : Nat) (v1 : Nat) (I : zI) (R : zR) : Option (Int32) :=
  zw_g (zw_gc v0 3) (if ¬ (I v0 0) = 0 then some 1 else zw_g (zw_gc v1 8) (zw_g (zw_gc (R v1 2) 13) (zw_g (zw_in (I v0 3) (zw_SH (R v1 2)).2) (some (I (R v1 2) (Int32.toNatClampNeg (I v0 3)))))))
theorem c_X3_kind (X : zw_X) (v0 : Nat) (v1 : Nat) (I : zI) (R : zR) (J : zJ) {P : Option Value → aS → Prop} (o : Int32) (hf : f_X3_kind v0 v1 I R = some o) (hk : P (some (.int o)) (I, R, J)) : zw_C X M_X3_kind 0 0 0 199 [.ref v0, .ref v1] (I, R, J) P := by
  show zy_V X M_X3_kind 0 P 0 [.ref v0, .ref v1] [] (I, R, J)
  unfold f_X3_kind at hf
  refine zv_aload_n (pc := 0) d_X3_kind_0 rfl ?_
  obtain ⟨g1, hf⟩ := zw_gcE hf (by decide)
  refine zx_getI (pc := 1) d_X3_kind_1 lk_CutStones_Reader_9 (by decide) g1 ?_
  rcases zw_ifE hf with ⟨c2, hf⟩ | ⟨c2, hf⟩
  · refine zv_if_ne (pc := 4) (tg := 19) d_X3_kind_4 (by decide) (fun _ => ?_) (fun q => absurd q c2)
    refine zv_iconst (pc := 19) d_X3_kind_19 zc_i_1 ?_
    cases hf
    exact zx_iret (pc := 20) d_X3_kind_20 rfl hk
  · refine zv_if_ne (pc := 4) (tg := 19) d_X3_kind_4 (by decide) (fun q => absurd q c2) (fun _ => ?_)
    refine zv_aload_n (pc := 7) d_X3_kind_7 rfl ?_
    obtain ⟨g3, hf⟩ := zw_gcE hf (by decide)
    obtain ⟨g4, hf⟩ := zw_gcE hf (by decide)
    refine zx_getR (pc := 8) d_X3_kind_8 lk_CutStones_Reader_37 (by decide) g3 g4 ?_
    refine zv_aload_n (pc := 11) d_X3_kind_11 rfl ?_
    refine zx_getI (pc := 12) d_X3_kind_12 lk_CutStones_Reader_25 (by decide) g1 ?_
    obtain ⟨i5, hf⟩ := zw_inE hf
    refine zx_iald (pc := 15) d_X3_kind_15 g4 i5 ?_
    refine zv_goto (pc := 16) (tg := 20) d_X3_kind_16 (by decide) ?_
    cases hf
    exact zx_iret (pc := 20) d_X3_kind_20 rfl hk
abbrev M_X3_noteLater : zw_M := (⟨"CutStones$Reader", "noteLater", "(II)V"⟩, prog_5_method_6_code, 3, (Option.none : Option Jvm.ClassFile.FieldType))
theorem d_X3_noteLater_0 : decode M_X3_noteLater.2.1 0 = .ok (.aload_n 0, 1) := by decide +kernel
theorem d_X3_noteLater_1 : decode M_X3_noteLater.2.1 1 = .ok (.getfield 28, 3) := by decide +kernel
theorem d_X3_noteLater_4 : decode M_X3_noteLater.2.1 4 = .ok (.ifCond .ne 13, 3) := by decide +kernel
theorem d_X3_noteLater_7 : decode M_X3_noteLater.2.1 7 = .ok (.aload_n 0, 1) := by decide +kernel
theorem d_X3_noteLater_8 : decode M_X3_noteLater.2.1 8 = .ok (.iload_n 1, 1) := by decide +kernel
theorem d_X3_noteLater_9 : decode M_X3_noteLater.2.1 9 = .ok (.putfield 28, 3) := by decide +kernel
theorem d_X3_noteLater_12 : decode M_X3_noteLater.2.1 12 = .ok (.aload_n 0, 1) := by decide +kernel
theorem d_X3_noteLater_13 : decode M_X3_noteLater.2.1 13 = .ok (.iload_n 2, 1) := by decide +kernel
theorem d_X3_noteLater_14 : decode M_X3_noteLater.2.1 14 = .ok (.putfield 31, 3) := by decide +kernel
theorem d_X3_noteLater_17 : decode M_X3_noteLater.2.1 17 = .ok (.return_, 1) := by decide +kernel
theorem ce_X3_noteLater : zw_CeV M_X3_noteLater 2 := ⟨⟨⟨by decide +kernel, by decide +kernel, by decide +kernel⟩, (zw_mG (List.mem_of_getElem? (i := 734) (by decide +kernel)) rfl), (zw_mG (List.mem_of_getElem? (i := 98) (by decide +kernel)) rfl), by decide, by decide +kernel⟩, (zw_mG (List.mem_of_getElem? (i := 733) (by decide +kernel)) rfl), (zw_mG (List.mem_of_getElem? (i := 10) (by decide +kernel)) rfl)⟩
def f_X3_noteLater (v0 : Nat) (v1 : Int32) (v2 : Int32) (I : zI) : Option (zI) :=
  zw_g (zw_gc v0 3) (if ¬ (I v0 4) = 0 then some I else zw_let (zw_u I v0 4 v1 : zI) fun I3 => (zw_let (zw_u I3 v0 5 v2 : zI) fun I4 => (some I4)))
theorem c_X3_noteLater (X : zw_X) (v0 : Nat) (v1 : Int32) (v2 : Int32) (I : zI) (R : zR) (J : zJ) {P : Option Value → aS → Prop} (o : zI) (hf : f_X3_noteLater v0 v1 v2 I = some o) (hk : P none (o, R, J)) : zw_C X M_X3_noteLater 0 0 0 199 [.ref v0, .int v1, .int v2] (I, R, J) P := by
  show zy_V X M_X3_noteLater 0 P 0 [.ref v0, .int v1, .int v2] [] (I, R, J)
  unfold f_X3_noteLater at hf
  refine zv_aload_n (pc := 0) d_X3_noteLater_0 rfl ?_
  obtain ⟨g1, hf⟩ := zw_gcE hf (by decide)
  refine zx_getI (pc := 1) d_X3_noteLater_1 lk_CutStones_Reader_28 (by decide) g1 ?_
  rcases zw_ifE hf with ⟨c2, hf⟩ | ⟨c2, hf⟩
  · refine zv_if_ne (pc := 4) (tg := 17) d_X3_noteLater_4 (by decide) (fun _ => ?_) (fun q => absurd q c2)
    cases hf
    exact zx_vret (pc := 17) d_X3_noteLater_17 rfl hk
  · refine zv_if_ne (pc := 4) (tg := 17) d_X3_noteLater_4 (by decide) (fun q => absurd q c2) (fun _ => ?_)
    refine zv_aload_n (pc := 7) d_X3_noteLater_7 rfl ?_
    refine zv_iload_n (pc := 8) d_X3_noteLater_8 rfl ?_
    obtain ⟨I3, eI3, hf⟩ := zw_letE hf
    refine zx_putI (pc := 9) (I2 := I3) d_X3_noteLater_9 lk_CutStones_Reader_28 rfl g1 eI3 ?_
    refine zv_aload_n (pc := 12) d_X3_noteLater_12 rfl ?_
    refine zv_iload_n (pc := 13) d_X3_noteLater_13 rfl ?_
    obtain ⟨I4, eI4, hf⟩ := zw_letE hf
    refine zx_putI (pc := 14) (I2 := I4) d_X3_noteLater_14 lk_CutStones_Reader_31 rfl g1 eI4 ?_
    cases hf
    exact zx_vret (pc := 17) d_X3_noteLater_17 rfl hk
abbrev M_X3_take : zw_M := (⟨"CutStones$Reader", "take", "(LCutStones$Tape;IZ)Z"⟩, prog_5_method_5_code, 4, (Option.some Jvm.ClassFile.FieldType.boolean))
theorem d_X3_take_0 : decode M_X3_take.2.1 0 = .ok (.aload_n 0, 1) := by decide +kernel
theorem d_X3_take_1 : decode M_X3_take.2.1 1 = .ok (.getfield 9, 3) := by decide +kernel
theorem d_X3_take_4 : decode M_X3_take.2.1 4 = .ok (.ifCond .eq 5, 3) := by decide +kernel
theorem d_X3_take_7 : decode M_X3_take.2.1 7 = .ok (.iconst 0, 1) := by decide +kernel
theorem d_X3_take_8 : decode M_X3_take.2.1 8 = .ok (.ireturn, 1) := by decide +kernel
theorem d_X3_take_9 : decode M_X3_take.2.1 9 = .ok (.aload_n 1, 1) := by decide +kernel
theorem d_X3_take_10 : decode M_X3_take.2.1 10 = .ok (.getfield 37, 3) := by decide +kernel
theorem d_X3_take_13 : decode M_X3_take.2.1 13 = .ok (.aload_n 0, 1) := by decide +kernel
theorem d_X3_take_14 : decode M_X3_take.2.1 14 = .ok (.getfield 25, 3) := by decide +kernel
theorem d_X3_take_17 : decode M_X3_take.2.1 17 = .ok (.iaload, 1) := by decide +kernel
theorem d_X3_take_18 : decode M_X3_take.2.1 18 = .ok (.iload_n 2, 1) := by decide +kernel
theorem d_X3_take_19 : decode M_X3_take.2.1 19 = .ok (.if_icmp .eq 11, 3) := by decide +kernel
theorem d_X3_take_22 : decode M_X3_take.2.1 22 = .ok (.aload_n 0, 1) := by decide +kernel
theorem d_X3_take_23 : decode M_X3_take.2.1 23 = .ok (.iconst 1, 1) := by decide +kernel
theorem d_X3_take_24 : decode M_X3_take.2.1 24 = .ok (.putfield 9, 3) := by decide +kernel
theorem d_X3_take_27 : decode M_X3_take.2.1 27 = .ok (.goto 22, 3) := by decide +kernel
theorem d_X3_take_30 : decode M_X3_take.2.1 30 = .ok (.iload_n 3, 1) := by decide +kernel
theorem d_X3_take_31 : decode M_X3_take.2.1 31 = .ok (.ifCond .eq 13, 3) := by decide +kernel
theorem d_X3_take_34 : decode M_X3_take.2.1 34 = .ok (.aload_n 0, 1) := by decide +kernel
theorem d_X3_take_35 : decode M_X3_take.2.1 35 = .ok (.getfield 25, 3) := by decide +kernel
theorem d_X3_take_38 : decode M_X3_take.2.1 38 = .ok (.sipush 500, 3) := by decide +kernel
theorem d_X3_take_41 : decode M_X3_take.2.1 41 = .ok (.if_icmp .lt 8, 3) := by decide +kernel
theorem d_X3_take_44 : decode M_X3_take.2.1 44 = .ok (.aload_n 0, 1) := by decide +kernel
theorem d_X3_take_45 : decode M_X3_take.2.1 45 = .ok (.iconst 2, 1) := by decide +kernel
theorem d_X3_take_46 : decode M_X3_take.2.1 46 = .ok (.putfield 9, 3) := by decide +kernel
theorem d_X3_take_49 : decode M_X3_take.2.1 49 = .ok (.aload_n 0, 1) := by decide +kernel
theorem d_X3_take_50 : decode M_X3_take.2.1 50 = .ok (.getfield 9, 3) := by decide +kernel
theorem d_X3_take_53 : decode M_X3_take.2.1 53 = .ok (.ifCond .eq 18, 3) := by decide +kernel
theorem d_X3_take_56 : decode M_X3_take.2.1 56 = .ok (.aload_n 0, 1) := by decide +kernel
theorem d_X3_take_57 : decode M_X3_take.2.1 57 = .ok (.aload_n 1, 1) := by decide +kernel
theorem d_X3_take_58 : decode M_X3_take.2.1 58 = .ok (.getfield 59, 3) := by decide +kernel
theorem d_X3_take_61 : decode M_X3_take.2.1 61 = .ok (.aload_n 0, 1) := by decide +kernel
theorem d_X3_take_62 : decode M_X3_take.2.1 62 = .ok (.getfield 25, 3) := by decide +kernel
theorem d_X3_take_65 : decode M_X3_take.2.1 65 = .ok (.iaload, 1) := by decide +kernel
theorem d_X3_take_66 : decode M_X3_take.2.1 66 = .ok (.putfield 15, 3) := by decide +kernel
theorem d_X3_take_69 : decode M_X3_take.2.1 69 = .ok (.iconst 0, 1) := by decide +kernel
theorem d_X3_take_70 : decode M_X3_take.2.1 70 = .ok (.ireturn, 1) := by decide +kernel
theorem d_X3_take_71 : decode M_X3_take.2.1 71 = .ok (.aload_n 0, 1) := by decide +kernel
theorem d_X3_take_72 : decode M_X3_take.2.1 72 = .ok (.dup, 1) := by decide +kernel
theorem d_X3_take_73 : decode M_X3_take.2.1 73 = .ok (.getfield 25, 3) := by decide +kernel
theorem d_X3_take_76 : decode M_X3_take.2.1 76 = .ok (.iconst 1, 1) := by decide +kernel
theorem d_X3_take_77 : decode M_X3_take.2.1 77 = .ok (.iadd, 1) := by decide +kernel
theorem d_X3_take_78 : decode M_X3_take.2.1 78 = .ok (.putfield 25, 3) := by decide +kernel
theorem d_X3_take_81 : decode M_X3_take.2.1 81 = .ok (.iconst 1, 1) := by decide +kernel
theorem d_X3_take_82 : decode M_X3_take.2.1 82 = .ok (.ireturn, 1) := by decide +kernel
theorem ce_X3_take : zw_CeV M_X3_take 3 := ⟨⟨⟨by decide +kernel, by decide +kernel, by decide +kernel⟩, (zw_mG (List.mem_of_getElem? (i := 710) (by decide +kernel)) rfl), (zw_mG (List.mem_of_getElem? (i := 98) (by decide +kernel)) rfl), by decide, by decide +kernel⟩, (zw_mG (List.mem_of_getElem? (i := 709) (by decide +kernel)) rfl), (zw_mG (List.mem_of_getElem? (i := 7) (by decide +kernel)) rfl)⟩
def j_X3_take_49 (v0 : Nat) (v1 : Nat) (I : zI) (R : zR) : Option (Int32 × zI) :=
  zw_g (zw_gc v0 3) (if (I v0 0) = 0 then zw_let (zw_u I v0 3 ((I v0 3) + 1) : zI) fun I12 => (some (1, I12)) else zw_g (zw_gc v1 8) (zw_g (zw_gc (R v1 3) 13) (zw_g (zw_in (I v0 3) (zw_SH (R v1 3)).2) (zw_let (zw_u I v0 1 (I (R v1 3) (Int32.toNatClampNeg (I v0 3))) : zI) fun I16 => (some (0, I16))))))
theorem j_X3_take_49_ok (X : zw_X) (P : Option Value → aS → Prop) (v0 : Nat) (v1 : Nat) (I : zI) (R : zR) (J : zJ) (o : Int32 × zI) (hf : j_X3_take_49 v0 v1 I R = some o) (hk : P (some (.int o.1)) (o.2, R, J)) : zy_V X M_X3_take 0 P 49 [.ref v0, .ref v1, .null, .null] [] (I, R, J) := by
  unfold j_X3_take_49 at hf
  refine zv_aload_n (pc := 49) d_X3_take_49 rfl ?_
  obtain ⟨g10, hf⟩ := zw_gcE hf (by decide)
  refine zx_getI (pc := 50) d_X3_take_50 lk_CutStones_Reader_9 (by decide) g10 ?_
  rcases zw_ifE hf with ⟨c11, hf⟩ | ⟨c11, hf⟩
  · refine zv_if_eq (pc := 53) (tg := 71) d_X3_take_53 (by decide) (fun _ => ?_) (fun q => absurd c11 q)
    refine zv_aload_n (pc := 71) d_X3_take_71 rfl ?_
    refine zv_dup (pc := 72) d_X3_take_72 rfl ?_
    refine zx_getI (pc := 73) d_X3_take_73 lk_CutStones_Reader_25 (by decide) g10 ?_
    refine zv_iconst (pc := 76) d_X3_take_76 zc_i_1 ?_
    refine zv_iadd (pc := 77) d_X3_take_77 ?_
    obtain ⟨I12, eI12, hf⟩ := zw_letE hf
    refine zx_putI (pc := 78) (I2 := I12) d_X3_take_78 lk_CutStones_Reader_25 rfl g10 eI12 ?_
    refine zv_iconst (pc := 81) d_X3_take_81 zc_i_1 ?_
    cases hf
    exact zx_zret (pc := 82) d_X3_take_82 rfl (Or.inr rfl) hk
  · refine zv_if_eq (pc := 53) (tg := 71) d_X3_take_53 (by decide) (fun q => absurd q c11) (fun _ => ?_)
    refine zv_aload_n (pc := 56) d_X3_take_56 rfl ?_
    refine zv_aload_n (pc := 57) d_X3_take_57 rfl ?_
    obtain ⟨g13, hf⟩ := zw_gcE hf (by decide)
    obtain ⟨g14, hf⟩ := zw_gcE hf (by decide)
    refine zx_getR (pc := 58) d_X3_take_58 lk_CutStones_Reader_59 (by decide) g13 g14 ?_
    refine zv_aload_n (pc := 61) d_X3_take_61 rfl ?_
    refine zx_getI (pc := 62) d_X3_take_62 lk_CutStones_Reader_25 (by decide) g10 ?_
    obtain ⟨i15, hf⟩ := zw_inE hf
    refine zx_iald (pc := 65) d_X3_take_65 g14 i15 ?_
    obtain ⟨I16, eI16, hf⟩ := zw_letE hf
    refine zx_putI (pc := 66) (I2 := I16) d_X3_take_66 lk_CutStones_Reader_15 rfl g10 eI16 ?_
    refine zv_iconst (pc := 69) d_X3_take_69 zc_i_0 ?_
    cases hf
    exact zx_zret (pc := 70) d_X3_take_70 rfl (Or.inl rfl) hk
def j_X3_take_44 (v0 : Nat) (v1 : Nat) (I : zI) (R : zR) : Option (Int32 × zI) :=
  zw_g (zw_gc v0 3) (zw_let (zw_u I v0 0 2 : zI) fun I9 => (j_X3_take_49 v0 v1 I9 R))
theorem j_X3_take_44_ok (X : zw_X) (P : Option Value → aS → Prop) (v0 : Nat) (v1 : Nat) (I : zI) (R : zR) (J : zJ) (o : Int32 × zI) (hf : j_X3_take_44 v0 v1 I R = some o) (hk : P (some (.int o.1)) (o.2, R, J)) : zy_V X M_X3_take 0 P 44 [.ref v0, .ref v1, .null, .null] [] (I, R, J) := by
  unfold j_X3_take_44 at hf
  refine zv_aload_n (pc := 44) d_X3_take_44 rfl ?_
  refine zv_iconst (pc := 45) d_X3_take_45 zc_i_2 ?_
  obtain ⟨g8, hf⟩ := zw_gcE hf (by decide)
  obtain ⟨I9, eI9, hf⟩ := zw_letE hf
  refine zx_putI (pc := 46) (I2 := I9) d_X3_take_46 lk_CutStones_Reader_9 rfl g8 eI9 ?_
  exact zx_weak (zw_leS (zw_leS (zw_leN (zw_leN zw_leZ)))) (j_X3_take_49_ok X P v0 v1 I9 R J _ hf hk)
def f_X3_take (v0 : Nat) (v1 : Nat) (v2 : Int32) (v3 : Int32) (I : zI) (R : zR) : Option (Int32 × zI) :=
  zw_g (zw_gc v0 3) (if (I v0 0) = 0 then zw_g (zw_gc v1 8) (zw_g (zw_gc (R v1 2) 13) (zw_g (zw_in (I v0 3) (zw_SH (R v1 2)).2) (if (I (R v1 2) (Int32.toNatClampNeg (I v0 3))) = v2 then if v3 = 0 then j_X3_take_44 v0 v1 I R else if (I v0 3) < 500 then j_X3_take_49 v0 v1 I R else j_X3_take_44 v0 v1 I R else zw_let (zw_u I v0 0 1 : zI) fun I18 => (j_X3_take_49 v0 v1 I18 R)))) else some (0, I))
theorem c_X3_take (X : zw_X) (v0 : Nat) (v1 : Nat) (v2 : Int32) (v3 : Int32) (I : zI) (R : zR) (J : zJ) {P : Option Value → aS → Prop} (o : Int32 × zI) (hf : f_X3_take v0 v1 v2 v3 I R = some o) (hk : P (some (.int o.1)) (o.2, R, J)) : zw_C X M_X3_take 0 0 0 199 [.ref v0, .ref v1, .int v2, .int v3] (I, R, J) P := by
  show zy_V X M_X3_take 0 P 0 [.ref v0, .ref v1, .int v2, .int v3] [] (I, R, J)
  unfold f_X3_take at hf
  refine zv_aload_n (pc := 0) d_X3_take_0 rfl ?_
  obtain ⟨g1, hf⟩ := zw_gcE hf (by decide)
  refine zx_getI (pc := 1) d_X3_take_1 lk_CutStones_Reader_9 (by decide) g1 ?_
  rcases zw_ifE hf with ⟨c2, hf⟩ | ⟨c2, hf⟩
  · refine zv_if_eq (pc := 4) (tg := 9) d_X3_take_4 (by decide) (fun _ => ?_) (fun q => absurd c2 q)
    refine zv_aload_n (pc := 9) d_X3_take_9 rfl ?_
    obtain ⟨g3, hf⟩ := zw_gcE hf (by decide)
    obtain ⟨g4, hf⟩ := zw_gcE hf (by decide)
    refine zx_getR (pc := 10) d_X3_take_10 lk_CutStones_Reader_37 (by decide) g3 g4 ?_
    refine zv_aload_n (pc := 13) d_X3_take_13 rfl ?_
    refine zx_getI (pc := 14) d_X3_take_14 lk_CutStones_Reader_25 (by decide) g1 ?_
    obtain ⟨i5, hf⟩ := zw_inE hf
    refine zx_iald (pc := 17) d_X3_take_17 g4 i5 ?_
    refine zv_iload_n (pc := 18) d_X3_take_18 rfl ?_
    rcases zw_ifE hf with ⟨c6, hf⟩ | ⟨c6, hf⟩
    · refine zv_icmp_eq (pc := 19) (tg := 30) d_X3_take_19 (by decide) (fun _ => ?_) (fun q => absurd c6 q)
      refine zv_iload_n (pc := 30) d_X3_take_30 rfl ?_
      rcases zw_ifE hf with ⟨c7, hf⟩ | ⟨c7, hf⟩
      · refine zv_if_eq (pc := 31) (tg := 44) d_X3_take_31 (by decide) (fun _ => ?_) (fun q => absurd c7 q)
        exact zx_weak (zw_leS (zw_leS (zw_leN (zw_leN zw_leZ)))) (j_X3_take_44_ok X P v0 v1 I R J _ hf hk)
      · refine zv_if_eq (pc := 31) (tg := 44) d_X3_take_31 (by decide) (fun q => absurd q c7) (fun _ => ?_)
        refine zv_aload_n (pc := 34) d_X3_take_34 rfl ?_
        refine zx_getI (pc := 35) d_X3_take_35 lk_CutStones_Reader_25 (by decide) g1 ?_
        refine zv_sipush (pc := 38) d_X3_take_38 zc_s_500 ?_
        rcases zw_ifE hf with ⟨c17, hf⟩ | ⟨c17, hf⟩
        · refine zv_icmp_lt (pc := 41) (tg := 49) d_X3_take_41 (by decide) (fun _ => ?_) (fun q => absurd c17 q)
          exact zx_weak (zw_leS (zw_leS (zw_leN (zw_leN zw_leZ)))) (j_X3_take_49_ok X P v0 v1 I R J _ hf hk)
        · refine zv_icmp_lt (pc := 41) (tg := 49) d_X3_take_41 (by decide) (fun q => absurd q c17) (fun _ => ?_)
          exact zx_weak (zw_leS (zw_leS (zw_leN (zw_leN zw_leZ)))) (j_X3_take_44_ok X P v0 v1 I R J _ hf hk)
    · refine zv_icmp_eq (pc := 19) (tg := 30) d_X3_take_19 (by decide) (fun q => absurd q c6) (fun _ => ?_)
      refine zv_aload_n (pc := 22) d_X3_take_22 rfl ?_
      refine zv_iconst (pc := 23) d_X3_take_23 zc_i_1 ?_
      obtain ⟨I18, eI18, hf⟩ := zw_letE hf
      refine zx_putI (pc := 24) (I2 := I18) d_X3_take_24 lk_CutStones_Reader_9 rfl g1 eI18 ?_
      refine zv_goto (pc := 27) (tg := 49) d_X3_take_27 (by decide) ?_
      exact zx_weak (zw_leS (zw_leS (zw_leN (zw_leN zw_leZ)))) (j_X3_take_49_ok X P v0 v1 I18 R J _ hf hk)
  · refine zv_if_eq (pc := 4) (tg := 9) d_X3_take_4 (by decide) (fun q => absurd q c2) (fun _ => ?_)
    refine zv_iconst (pc := 7) d_X3_take_7 zc_i_0 ?_
    cases hf
    exact zx_zret (pc := 8) d_X3_take_8 rfl (Or.inl rfl) hk
