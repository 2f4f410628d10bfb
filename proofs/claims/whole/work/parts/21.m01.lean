abbrev M_X10_isLamp : zw_M := (⟨"CutStones", "isLamp", "(I)Z"⟩, prog_1_method_38_code, 1, (Option.some Jvm.ClassFile.FieldType.boolean))
theorem d_X10_isLamp_0 : decode M_X10_isLamp.2.1 0 = .ok (.iload_n 0, 1) := by decide +kernel
theorem d_X10_isLamp_1 : decode M_X10_isLamp.2.1 1 = .ok (.ifCond .lt 13, 3) := by decide +kernel
theorem d_X10_isLamp_4 : decode M_X10_isLamp.2.1 4 = .ok (.iload_n 0, 1) := by decide +kernel
theorem d_X10_isLamp_5 : decode M_X10_isLamp.2.1 5 = .ok (.ldc 158, 2) := by decide +kernel
theorem d_X10_isLamp_7 : decode M_X10_isLamp.2.1 7 = .ok (.if_icmp .gt 7, 3) := by decide +kernel
theorem d_X10_isLamp_10 : decode M_X10_isLamp.2.1 10 = .ok (.iconst 1, 1) := by decide +kernel
theorem d_X10_isLamp_11 : decode M_X10_isLamp.2.1 11 = .ok (.goto 4, 3) := by decide +kernel
theorem d_X10_isLamp_14 : decode M_X10_isLamp.2.1 14 = .ok (.iconst 0, 1) := by decide +kernel
theorem d_X10_isLamp_15 : decode M_X10_isLamp.2.1 15 = .ok (.ireturn, 1) := by decide +kernel
theorem ce_X10_isLamp : zw_CeS M_X10_isLamp 1 := ⟨⟨⟨by decide +kernel, by decide +kernel, by decide +kernel⟩, (zw_mG (List.mem_of_getElem? (i := 936) (by decide +kernel)) rfl), (zw_mG (List.mem_of_getElem? (i := 96) (by decide +kernel)) rfl), by decide, by decide +kernel⟩, (zw_mG (List.mem_of_getElem? (i := 935) (by decide +kernel)) rfl)⟩
def f_X10_isLamp (v0 : Int32)  : Option (Int32) :=
  if v0 < 0 then some 0 else if 100000 < v0 then some 0 else some 1
theorem c_X10_isLamp (X : zw_X) (v0 : Int32) (I : zI) (R : zR) (J : zJ) {P : Option Value → aS → Prop} (o : Int32) (hf : f_X10_isLamp v0  = some o) (hk : P (some (.int o)) (I, R, J)) : zw_C X M_X10_isLamp 0 0 0 199 [.int v0] (I, R, J) P := by
  show zy_V X M_X10_isLamp 0 P 0 [.int v0] [] (I, R, J)
  unfold f_X10_isLamp at hf
  refine zv_iload_n (pc := 0) d_X10_isLamp_0 rfl ?_
  rcases zw_ifE hf with ⟨c1, hf⟩ | ⟨c1, hf⟩
  · refine zv_if_lt (pc := 1) (tg := 14) d_X10_isLamp_1 (by decide) (fun _ => ?_) (fun q => absurd c1 q)
    refine zv_iconst (pc := 14) d_X10_isLamp_14 zc_i_0 ?_
    cases hf
    exact zx_zret (pc := 15) d_X10_isLamp_15 rfl (Or.inl rfl) hk
  · refine zv_if_lt (pc := 1) (tg := 14) d_X10_isLamp_1 (by decide) (fun q => absurd q c1) (fun _ => ?_)
    refine zv_iload_n (pc := 4) d_X10_isLamp_4 rfl ?_
    refine zv_ldc (pc := 5) (v := 100000) d_X10_isLamp_5 (zw_mG (List.mem_of_getElem? (i := 891) (by decide +kernel)) rfl) ?_
    rcases zw_ifE hf with ⟨c2, hf⟩ | ⟨c2, hf⟩
    · refine zv_icmp_gt (pc := 7) (tg := 14) d_X10_isLamp_7 (by decide) (fun _ => ?_) (fun q => absurd c2 q)
      refine zv_iconst (pc := 14) d_X10_isLamp_14 zc_i_0 ?_
      cases hf
      exact zx_zret (pc := 15) d_X10_isLamp_15 rfl (Or.inl rfl) hk
    · refine zv_icmp_gt (pc := 7) (tg := 14) d_X10_isLamp_7 (by decide) (fun q => absurd q c2) (fun _ => ?_)
      refine zv_iconst (pc := 10) d_X10_isLamp_10 zc_i_1 ?_
      refine zv_goto (pc := 11) (tg := 15) d_X10_isLamp_11 (by decide) ?_
      cases hf
      exact zx_zret (pc := 15) d_X10_isLamp_15 rfl (Or.inr rfl) hk
abbrev M_X10_isRough : zw_M := (⟨"CutStones", "isRough", "(I)Z"⟩, prog_1_method_33_code, 2, (Option.some Jvm.ClassFile.FieldType.boolean))
theorem d_X10_isRough_0 : decode M_X10_isRough.2.1 0 = .ok (.iload_n 1, 1) := by decide +kernel
theorem d_X10_isRough_1 : decode M_X10_isRough.2.1 1 = .ok (.ifCond .lt 18, 3) := by decide +kernel
theorem d_X10_isRough_4 : decode M_X10_isRough.2.1 4 = .ok (.iload_n 1, 1) := by decide +kernel
theorem d_X10_isRough_5 : decode M_X10_isRough.2.1 5 = .ok (.aload_n 0, 1) := by decide +kernel
theorem d_X10_isRough_6 : decode M_X10_isRough.2.1 6 = .ok (.getfield 26, 3) := by decide +kernel
theorem d_X10_isRough_9 : decode M_X10_isRough.2.1 9 = .ok (.getfield 270, 3) := by decide +kernel
theorem d_X10_isRough_12 : decode M_X10_isRough.2.1 12 = .ok (.if_icmp .ge 7, 3) := by decide +kernel
theorem d_X10_isRough_15 : decode M_X10_isRough.2.1 15 = .ok (.iconst 1, 1) := by decide +kernel
theorem d_X10_isRough_16 : decode M_X10_isRough.2.1 16 = .ok (.goto 4, 3) := by decide +kernel
theorem d_X10_isRough_19 : decode M_X10_isRough.2.1 19 = .ok (.iconst 0, 1) := by decide +kernel
theorem d_X10_isRough_20 : decode M_X10_isRough.2.1 20 = .ok (.ireturn, 1) := by decide +kernel
theorem ce_X10_isRough : zw_CeV M_X10_isRough 1 := ⟨⟨⟨by decide +kernel, by decide +kernel, by decide +kernel⟩, (zw_mG (List.mem_of_getElem? (i := 848) (by decide +kernel)) rfl), (zw_mG (List.mem_of_getElem? (i := 96) (by decide +kernel)) rfl), by decide, by decide +kernel⟩, (zw_mG (List.mem_of_getElem? (i := 847) (by decide +kernel)) rfl), (zw_mG (List.mem_of_getElem? (i := 24) (by decide +kernel)) rfl)⟩
def f_X10_isRough (v0 : Nat) (v1 : Int32) (I : zI) (R : zR) : Option (Int32) :=
  if v1 < 0 then some 0 else zw_g (zw_gc v0 10) (zw_g (zw_gc (R v0 2) 1) (if (I (R v0 2) 5) ≤ v1 then some 0 else some 1))
theorem c_X10_isRough (X : zw_X) (v0 : Nat) (v1 : Int32) (I : zI) (R : zR) (J : zJ) {P : Option Value → aS → Prop} (o : Int32) (hf : f_X10_isRough v0 v1 I R = some o) (hk : P (some (.int o)) (I, R, J)) : zw_C X M_X10_isRough 0 0 0 199 [.ref v0, .int v1] (I, R, J) P := by
  show zy_V X M_X10_isRough 0 P 0 [.ref v0, .int v1] [] (I, R, J)
  unfold f_X10_isRough at hf
  refine zv_iload_n (pc := 0) d_X10_isRough_0 rfl ?_
  rcases zw_ifE hf with ⟨c1, hf⟩ | ⟨c1, hf⟩
  · refine zv_if_lt (pc := 1) (tg := 19) d_X10_isRough_1 (by decide) (fun _ => ?_) (fun q => absurd c1 q)
    refine zv_iconst (pc := 19) d_X10_isRough_19 zc_i_0 ?_
    cases hf
    exact zx_zret (pc := 20) d_X10_isRough_20 rfl (Or.inl rfl) hk
  · refine zv_if_lt (pc := 1) (tg := 19) d_X10_isRough_1 (by decide) (fun q => absurd q c1) (fun _ => ?_)
    refine zv_iload_n (pc := 4) d_X10_isRough_4 rfl ?_
    refine zv_aload_n (pc := 5) d_X10_isRough_5 rfl ?_
    obtain ⟨g2, hf⟩ := zw_gcE hf (by decide)
    obtain ⟨g3, hf⟩ := zw_gcE hf (by decide)
    refine zx_getR (pc := 6) d_X10_isRough_6 lk_CutStones_26 (by decide) g2 g3 ?_
    refine zx_getI (pc := 9) d_X10_isRough_9 lk_CutStones_270 (by decide) g3 ?_
    rcases zw_ifE hf with ⟨c4, hf⟩ | ⟨c4, hf⟩
    · refine zv_icmp_ge (pc := 12) (tg := 19) d_X10_isRough_12 (by decide) (fun _ => ?_) (fun q => absurd c4 q)
      refine zv_iconst (pc := 19) d_X10_isRough_19 zc_i_0 ?_
      cases hf
      exact zx_zret (pc := 20) d_X10_isRough_20 rfl (Or.inl rfl) hk
    · refine zv_icmp_ge (pc := 12) (tg := 19) d_X10_isRough_12 (by decide) (fun q => absurd q c4) (fun _ => ?_)
      refine zv_iconst (pc := 15) d_X10_isRough_15 zc_i_1 ?_
      refine zv_goto (pc := 16) (tg := 20) d_X10_isRough_16 (by decide) ?_
      cases hf
      exact zx_zret (pc := 20) d_X10_isRough_20 rfl (Or.inr rfl) hk
abbrev M_X10_isStuff : zw_M := (⟨"CutStones", "isStuff", "(I)Z"⟩, prog_1_method_31_code, 2, (Option.some Jvm.ClassFile.FieldType.boolean))
theorem d_X10_isStuff_0 : decode M_X10_isStuff.2.1 0 = .ok (.iload_n 1, 1) := by decide +kernel
theorem d_X10_isStuff_1 : decode M_X10_isStuff.2.1 1 = .ok (.ifCond .lt 18, 3) := by decide +kernel
theorem d_X10_isStuff_4 : decode M_X10_isStuff.2.1 4 = .ok (.iload_n 1, 1) := by decide +kernel
theorem d_X10_isStuff_5 : decode M_X10_isStuff.2.1 5 = .ok (.aload_n 0, 1) := by decide +kernel
theorem d_X10_isStuff_6 : decode M_X10_isStuff.2.1 6 = .ok (.getfield 26, 3) := by decide +kernel
theorem d_X10_isStuff_9 : decode M_X10_isStuff.2.1 9 = .ok (.getfield 267, 3) := by decide +kernel
theorem d_X10_isStuff_12 : decode M_X10_isStuff.2.1 12 = .ok (.if_icmp .ge 7, 3) := by decide +kernel
theorem d_X10_isStuff_15 : decode M_X10_isStuff.2.1 15 = .ok (.iconst 1, 1) := by decide +kernel
theorem d_X10_isStuff_16 : decode M_X10_isStuff.2.1 16 = .ok (.goto 4, 3) := by decide +kernel
theorem d_X10_isStuff_19 : decode M_X10_isStuff.2.1 19 = .ok (.iconst 0, 1) := by decide +kernel
theorem d_X10_isStuff_20 : decode M_X10_isStuff.2.1 20 = .ok (.ireturn, 1) := by decide +kernel
theorem ce_X10_isStuff : zw_CeV M_X10_isStuff 1 := ⟨⟨⟨by decide +kernel, by decide +kernel, by decide +kernel⟩, (zw_mG (List.mem_of_getElem? (i := 883) (by decide +kernel)) rfl), (zw_mG (List.mem_of_getElem? (i := 96) (by decide +kernel)) rfl), by decide, by decide +kernel⟩, (zw_mG (List.mem_of_getElem? (i := 882) (by decide +kernel)) rfl), (zw_mG (List.mem_of_getElem? (i := 27) (by decide +kernel)) rfl)⟩
def f_X10_isStuff (v0 : Nat) (v1 : Int32) (I : zI) (R : zR) : Option (Int32) :=
  if v1 < 0 then some 0 else zw_g (zw_gc v0 10) (zw_g (zw_gc (R v0 2) 1) (if (I (R v0 2) 1) ≤ v1 then some 0 else some 1))
theorem c_X10_isStuff (X : zw_X) (v0 : Nat) (v1 : Int32) (I : zI) (R : zR) (J : zJ) {P : Option Value → aS → Prop} (o : Int32) (hf : f_X10_isStuff v0 v1 I R = some o) (hk : P (some (.int o)) (I, R, J)) : zw_C X M_X10_isStuff 0 0 0 199 [.ref v0, .int v1] (I, R, J) P := by
  show zy_V X M_X10_isStuff 0 P 0 [.ref v0, .int v1] [] (I, R, J)
  unfold f_X10_isStuff at hf
  refine zv_iload_n (pc := 0) d_X10_isStuff_0 rfl ?_
  rcases zw_ifE hf with ⟨c1, hf⟩ | ⟨c1, hf⟩
  · refine zv_if_lt (pc := 1) (tg := 19) d_X10_isStuff_1 (by decide) (fun _ => ?_) (fun q => absurd c1 q)
    refine zv_iconst (pc := 19) d_X10_isStuff_19 zc_i_0 ?_
    cases hf
    exact zx_zret (pc := 20) d_X10_isStuff_20 rfl (Or.inl rfl) hk
  · refine zv_if_lt (pc := 1) (tg := 19) d_X10_isStuff_1 (by decide) (fun q => absurd q c1) (fun _ => ?_)
    refine zv_iload_n (pc := 4) d_X10_isStuff_4 rfl ?_
    refine zv_aload_n (pc := 5) d_X10_isStuff_5 rfl ?_
    obtain ⟨g2, hf⟩ := zw_gcE hf (by decide)
    obtain ⟨g3, hf⟩ := zw_gcE hf (by decide)
    refine zx_getR (pc := 6) d_X10_isStuff_6 lk_CutStones_26 (by decide) g2 g3 ?_
    refine zx_getI (pc := 9) d_X10_isStuff_9 lk_CutStones_267 (by decide) g3 ?_
    rcases zw_ifE hf with ⟨c4, hf⟩ | ⟨c4, hf⟩
    · refine zv_icmp_ge (pc := 12) (tg := 19) d_X10_isStuff_12 (by decide) (fun _ => ?_) (fun q => absurd c4 q)
      refine zv_iconst (pc := 19) d_X10_isStuff_19 zc_i_0 ?_
      cases hf
      exact zx_zret (pc := 20) d_X10_isStuff_20 rfl (Or.inl rfl) hk
    · refine zv_icmp_ge (pc := 12) (tg := 19) d_X10_isStuff_12 (by decide) (fun q => absurd q c4) (fun _ => ?_)
      refine zv_iconst (pc := 15) d_X10_isStuff_15 zc_i_1 ?_
      refine zv_goto (pc := 16) (tg := 20) d_X10_isStuff_16 (by decide) ?_
      cases hf
      exact zx_zret (pc := 20) d_X10_isStuff_20 rfl (Or.inr rfl) hk
abbrev M_X10_isTold : zw_M := (⟨"CutStones", "isTold", "(II)Z"⟩, prog_1_method_39_code, 2, (Option.some Jvm.ClassFile.FieldType.boolean))
theorem d_X10_isTold_0 : decode M_X10_isTold.2.1 0 = .ok (.iload_n 0, 1) := by decide +kernel
theorem d_X10_isTold_1 : decode M_X10_isTold.2.1 1 = .ok (.iload_n 1, 1) := by decide +kernel
theorem d_X10_isTold_2 : decode M_X10_isTold.2.1 2 = .ok (.ishr, 1) := by decide +kernel
theorem d_X10_isTold_3 : decode M_X10_isTold.2.1 3 = .ok (.iconst 1, 1) := by decide +kernel
theorem d_X10_isTold_4 : decode M_X10_isTold.2.1 4 = .ok (.iand, 1) := by decide +kernel
theorem d_X10_isTold_5 : decode M_X10_isTold.2.1 5 = .ok (.iconst 1, 1) := by decide +kernel
theorem d_X10_isTold_6 : decode M_X10_isTold.2.1 6 = .ok (.if_icmp .ne 7, 3) := by decide +kernel
theorem d_X10_isTold_9 : decode M_X10_isTold.2.1 9 = .ok (.iconst 1, 1) := by decide +kernel
theorem d_X10_isTold_10 : decode M_X10_isTold.2.1 10 = .ok (.goto 4, 3) := by decide +kernel
theorem d_X10_isTold_13 : decode M_X10_isTold.2.1 13 = .ok (.iconst 0, 1) := by decide +kernel
theorem d_X10_isTold_14 : decode M_X10_isTold.2.1 14 = .ok (.ireturn, 1) := by decide +kernel
theorem ce_X10_isTold : zw_CeS M_X10_isTold 2 := ⟨⟨⟨by decide +kernel, by decide +kernel, by decide +kernel⟩, (zw_mG (List.mem_of_getElem? (i := 958) (by decide +kernel)) rfl), (zw_mG (List.mem_of_getElem? (i := 96) (by decide +kernel)) rfl), by decide, by decide +kernel⟩, (zw_mG (List.mem_of_getElem? (i := 957) (by decide +kernel)) rfl)⟩
def f_X10_isTold (v0 : Int32) (v1 : Int32)  : Option (Int32) :=
  if ¬ ((v0 >>> (v1 &&& 31)) &&& 1) = 1 then some 0 else some 1
theorem c_X10_isTold (X : zw_X) (v0 : Int32) (v1 : Int32) (I : zI) (R : zR) (J : zJ) {P : Option Value → aS → Prop} (o : Int32) (hf : f_X10_isTold v0 v1  = some o) (hk : P (some (.int o)) (I, R, J)) : zw_C X M_X10_isTold 0 0 0 199 [.int v0, .int v1] (I, R, J) P := by
  show zy_V X M_X10_isTold 0 P 0 [.int v0, .int v1] [] (I, R, J)
  unfold f_X10_isTold at hf
  refine zv_iload_n (pc := 0) d_X10_isTold_0 rfl ?_
  refine zv_iload_n (pc := 1) d_X10_isTold_1 rfl ?_
  refine zv_ishr (pc := 2) d_X10_isTold_2 ?_
  refine zv_iconst (pc := 3) d_X10_isTold_3 zc_i_1 ?_
  refine zv_iand (pc := 4) d_X10_isTold_4 ?_
  refine zv_iconst (pc := 5) d_X10_isTold_5 zc_i_1 ?_
  rcases zw_ifE hf with ⟨c1, hf⟩ | ⟨c1, hf⟩
  · refine zv_icmp_ne (pc := 6) (tg := 13) d_X10_isTold_6 (by decide) (fun _ => ?_) (fun q => absurd q c1)
    refine zv_iconst (pc := 13) d_X10_isTold_13 zc_i_0 ?_
    cases hf
    exact zx_zret (pc := 14) d_X10_isTold_14 rfl (Or.inl rfl) hk
  · refine zv_icmp_ne (pc := 6) (tg := 13) d_X10_isTold_6 (by decide) (fun q => absurd q c1) (fun _ => ?_)
    refine zv_iconst (pc := 9) d_X10_isTold_9 zc_i_1 ?_
    refine zv_goto (pc := 10) (tg := 14) d_X10_isTold_10 (by decide) ?_
    cases hf
    exact zx_zret (pc := 14) d_X10_isTold_14 rfl (Or.inr rfl) hk
abbrev M_X10_laid : zw_M := (⟨"CutStones", "laid", "(I)I"⟩, prog_1_method_21_code, 2, (Option.some Jvm.ClassFile.FieldType.int))
theorem d_X10_laid_0 : decode M_X10_laid.2.1 0 = .ok (.iload_n 1, 1) := by decide +kernel
theorem d_X10_laid_1 : decode M_X10_laid.2.1 1 = .ok (.ifCond .lt 21, 3) := by decide +kernel
theorem d_X10_laid_4 : decode M_X10_laid.2.1 4 = .ok (.iload_n 1, 1) := by decide +kernel
theorem d_X10_laid_5 : decode M_X10_laid.2.1 5 = .ok (.aload_n 0, 1) := by decide +kernel
theorem d_X10_laid_6 : decode M_X10_laid.2.1 6 = .ok (.getfield 65, 3) := by decide +kernel
theorem d_X10_laid_9 : decode M_X10_laid.2.1 9 = .ok (.arraylength, 1) := by decide +kernel
theorem d_X10_laid_10 : decode M_X10_laid.2.1 10 = .ok (.if_icmp .ge 12, 3) := by decide +kernel
theorem d_X10_laid_13 : decode M_X10_laid.2.1 13 = .ok (.aload_n 0, 1) := by decide +kernel
theorem d_X10_laid_14 : decode M_X10_laid.2.1 14 = .ok (.getfield 65, 3) := by decide +kernel
theorem d_X10_laid_17 : decode M_X10_laid.2.1 17 = .ok (.iload_n 1, 1) := by decide +kernel
theorem d_X10_laid_18 : decode M_X10_laid.2.1 18 = .ok (.iaload, 1) := by decide +kernel
theorem d_X10_laid_19 : decode M_X10_laid.2.1 19 = .ok (.goto 4, 3) := by decide +kernel
theorem d_X10_laid_22 : decode M_X10_laid.2.1 22 = .ok (.iconst (-1), 1) := by decide +kernel
theorem d_X10_laid_23 : decode M_X10_laid.2.1 23 = .ok (.ireturn, 1) := by decide +kernel
theorem ce_X10_laid : zw_CeV M_X10_laid 1 := ⟨⟨⟨by decide +kernel, by decide +kernel, by decide +kernel⟩, (zw_mG (List.mem_of_getElem? (i := 1073) (by decide +kernel)) rfl), (zw_mG (List.mem_of_getElem? (i := 96) (by decide +kernel)) rfl), by decide, by decide +kernel⟩, (zw_mG (List.mem_of_getElem? (i := 1071) (by decide +kernel)) rfl), (zw_mG (List.mem_of_getElem? (i := 1072) (by decide +kernel)) rfl)⟩
def f_X10_laid (v0 : Nat) (v1 : Int32) (I : zI) (R : zR) : Option (Int32) :=
  if v1 < 0 then some (-1) else zw_g (zw_gc v0 10) (zw_g (zw_gc (R v0 10) 13) (if (Int32.ofNat (zw_SH (R v0 10)).2) ≤ v1 then some (-1) else zw_g (zw_in v1 (zw_SH (R v0 10)).2) (some (I (R v0 10) (Int32.toNatClampNeg v1)))))
theorem c_X10_laid (X : zw_X) (v0 : Nat) (v1 : Int32) (I : zI) (R : zR) (J : zJ) {P : Option Value → aS → Prop} (o : Int32) (hf : f_X10_laid v0 v1 I R = some o) (hk : P (some (.int o)) (I, R, J)) : zw_C X M_X10_laid 0 0 0 199 [.ref v0, .int v1] (I, R, J) P := by
  show zy_V X M_X10_laid 0 P 0 [.ref v0, .int v1] [] (I, R, J)
  unfold f_X10_laid at hf
  refine zv_iload_n (pc := 0) d_X10_laid_0 rfl ?_
  rcases zw_ifE hf with ⟨c1, hf⟩ | ⟨c1, hf⟩
  · refine zv_if_lt (pc := 1) (tg := 22) d_X10_laid_1 (by decide) (fun _ => ?_) (fun q => absurd c1 q)
    refine zv_iconst (pc := 22) d_X10_laid_22 zc_i_m1 ?_
    cases hf
    exact zx_iret (pc := 23) d_X10_laid_23 rfl hk
  · refine zv_if_lt (pc := 1) (tg := 22) d_X10_laid_1 (by decide) (fun q => absurd q c1) (fun _ => ?_)
    refine zv_iload_n (pc := 4) d_X10_laid_4 rfl ?_
    refine zv_aload_n (pc := 5) d_X10_laid_5 rfl ?_
    obtain ⟨g2, hf⟩ := zw_gcE hf (by decide)
    obtain ⟨g3, hf⟩ := zw_gcE hf (by decide)
    refine zx_getR (pc := 6) d_X10_laid_6 lk_CutStones_65 (by decide) g2 g3 ?_
    refine zx_alen (pc := 9) d_X10_laid_9 g3 ?_
    rcases zw_ifE hf with ⟨c4, hf⟩ | ⟨c4, hf⟩
    · refine zv_icmp_ge (pc := 10) (tg := 22) d_X10_laid_10 (by decide) (fun _ => ?_) (fun q => absurd c4 q)
      refine zv_iconst (pc := 22) d_X10_laid_22 zc_i_m1 ?_
      cases hf
      exact zx_iret (pc := 23) d_X10_laid_23 rfl hk
    · refine zv_icmp_ge (pc := 10) (tg := 22) d_X10_laid_10 (by decide) (fun q => absurd q c4) (fun _ => ?_)
      refine zv_aload_n (pc := 13) d_X10_laid_13 rfl ?_
      refine zx_getR (pc := 14) d_X10_laid_14 lk_CutStones_65 (by decide) g2 g3 ?_
      refine zv_iload_n (pc := 17) d_X10_laid_17 rfl ?_
      obtain ⟨i5, hf⟩ := zw_inE hf
      refine zx_iald (pc := 18) d_X10_laid_18 g3 i5 ?_
      refine zv_goto (pc := 19) (tg := 23) d_X10_laid_19 (by decide) ?_
      cases hf
      exact zx_iret (pc := 23) d_X10_laid_23 rfl hk
abbrev M_X10_lay : zw_M := (⟨"CutStones", "lay", "(III)V"⟩, prog_1_method_43_code, 4, (Option.none : Option Jvm.ClassFile.FieldType))
theorem d_X10_lay_0 : decode M_X10_lay.2.1 0 = .ok (.aload_n 0, 1) := by decide +kernel
theorem d_X10_lay_1 : decode M_X10_lay.2.1 1 = .ok (.getfield 65, 3) := by decide +kernel
theorem d_X10_lay_4 : decode M_X10_lay.2.1 4 = .ok (.iload_n 1, 1) := by decide +kernel
theorem d_X10_lay_5 : decode M_X10_lay.2.1 5 = .ok (.iload_n 2, 1) := by decide +kernel
theorem d_X10_lay_6 : decode M_X10_lay.2.1 6 = .ok (.iastore, 1) := by decide +kernel
theorem d_X10_lay_7 : decode M_X10_lay.2.1 7 = .ok (.aload_n 0, 1) := by decide +kernel
theorem d_X10_lay_8 : decode M_X10_lay.2.1 8 = .ok (.getfield 65, 3) := by decide +kernel
theorem d_X10_lay_11 : decode M_X10_lay.2.1 11 = .ok (.iload_n 1, 1) := by decide +kernel
theorem d_X10_lay_12 : decode M_X10_lay.2.1 12 = .ok (.iconst 1, 1) := by decide +kernel
theorem d_X10_lay_13 : decode M_X10_lay.2.1 13 = .ok (.iadd, 1) := by decide +kernel
theorem d_X10_lay_14 : decode M_X10_lay.2.1 14 = .ok (.iload_n 3, 1) := by decide +kernel
theorem d_X10_lay_15 : decode M_X10_lay.2.1 15 = .ok (.bipush 12, 2) := by decide +kernel
theorem d_X10_lay_17 : decode M_X10_lay.2.1 17 = .ok (.irem, 1) := by decide +kernel
theorem d_X10_lay_18 : decode M_X10_lay.2.1 18 = .ok (.iastore, 1) := by decide +kernel
theorem d_X10_lay_19 : decode M_X10_lay.2.1 19 = .ok (.aload_n 0, 1) := by decide +kernel
theorem d_X10_lay_20 : decode M_X10_lay.2.1 20 = .ok (.getfield 65, 3) := by decide +kernel
theorem d_X10_lay_23 : decode M_X10_lay.2.1 23 = .ok (.iload_n 1, 1) := by decide +kernel
theorem d_X10_lay_24 : decode M_X10_lay.2.1 24 = .ok (.iconst 2, 1) := by decide +kernel
theorem d_X10_lay_25 : decode M_X10_lay.2.1 25 = .ok (.iadd, 1) := by decide +kernel
theorem d_X10_lay_26 : decode M_X10_lay.2.1 26 = .ok (.iload_n 3, 1) := by decide +kernel
theorem d_X10_lay_27 : decode M_X10_lay.2.1 27 = .ok (.bipush 12, 2) := by decide +kernel
theorem d_X10_lay_29 : decode M_X10_lay.2.1 29 = .ok (.idiv, 1) := by decide +kernel
theorem d_X10_lay_30 : decode M_X10_lay.2.1 30 = .ok (.iastore, 1) := by decide +kernel
theorem d_X10_lay_31 : decode M_X10_lay.2.1 31 = .ok (.return_, 1) := by decide +kernel
theorem ce_X10_lay : zw_CeV M_X10_lay 3 := ⟨⟨⟨by decide +kernel, by decide +kernel, by decide +kernel⟩, (zw_mG (List.mem_of_getElem? (i := 1065) (by decide +kernel)) rfl), (zw_mG (List.mem_of_getElem? (i := 96) (by decide +kernel)) rfl), by decide, by decide +kernel⟩, (zw_mG (List.mem_of_getElem? (i := 1064) (by decide +kernel)) rfl), (zw_mG (List.mem_of_getElem? (i := 43) (by decide +kernel)) rfl)⟩
def f_X10_lay (v0 : Nat) (v1 : Int32) (v2 : Int32) (v3 : Int32) (I : zI) (R : zR) : Option (zI) :=
  zw_g (zw_gc v0 10) (zw_g (zw_gc (R v0 10) 13) (zw_g (zw_in v1 (zw_SH (R v0 10)).2) (zw_let (zw_u I (R v0 10) (Int32.toNatClampNeg v1) v2 : zI) fun I4 => (zw_g (zw_in (v1 + 1) (zw_SH (R v0 10)).2) (zw_let (zw_u I4 (R v0 10) (Int32.toNatClampNeg (v1 + 1)) (v3 - v3 / 12 * 12) : zI) fun I6 => (zw_g (zw_in (v1 + 2) (zw_SH (R v0 10)).2) (zw_let (zw_u I6 (R v0 10) (Int32.toNatClampNeg (v1 + 2)) (v3 / 12) : zI) fun I8 => (some I8))))))))
theorem c_X10_lay (X : zw_X) (v0 : Nat) (v1 : Int32) (v2 : Int32) (v3 : Int32) (I : zI) (R : zR) (J : zJ) {P : Option Value → aS → Prop} (o : zI) (hf : f_X10_lay v0 v1 v2 v3 I R = some o) (hk : P none (o, R, J)) : zw_C X M_X10_lay 0 0 0 199 [.ref v0, .int v1, .int v2, .int v3] (I, R, J) P := by
  show zy_V X M_X10_lay 0 P 0 [.ref v0, .int v1, .int v2, .int v3] [] (I, R, J)
  unfold f_X10_lay at hf
  refine zv_aload_n (pc := 0) d_X10_lay_0 rfl ?_
  obtain ⟨g1, hf⟩ := zw_gcE hf (by decide)
  obtain ⟨g2, hf⟩ := zw_gcE hf (by decide)
  refine zx_getR (pc := 1) d_X10_lay_1 lk_CutStones_65 (by decide) g1 g2 ?_
  refine zv_iload_n (pc := 4) d_X10_lay_4 rfl ?_
  refine zv_iload_n (pc := 5) d_X10_lay_5 rfl ?_
  obtain ⟨i3, hf⟩ := zw_inE hf
  obtain ⟨I4, eI4, hf⟩ := zw_letE hf
  refine zx_iast (pc := 6) (I2 := I4) d_X10_lay_6 g2 i3 eI4 ?_
  refine zv_aload_n (pc := 7) d_X10_lay_7 rfl ?_
  refine zx_getR (pc := 8) d_X10_lay_8 lk_CutStones_65 (by decide) g1 g2 ?_
  refine zv_iload_n (pc := 11) d_X10_lay_11 rfl ?_
  refine zv_iconst (pc := 12) d_X10_lay_12 zc_i_1 ?_
  refine zv_iadd (pc := 13) d_X10_lay_13 ?_
  refine zv_iload_n (pc := 14) d_X10_lay_14 rfl ?_
  refine zv_bipush (pc := 15) d_X10_lay_15 zc_b_12 ?_
  refine zv_irem (pc := 17) d_X10_lay_17 (by decide +kernel) ?_
  obtain ⟨i5, hf⟩ := zw_inE hf
  obtain ⟨I6, eI6, hf⟩ := zw_letE hf
  refine zx_iast (pc := 18) (I2 := I6) d_X10_lay_18 g2 i5 eI6 ?_
  refine zv_aload_n (pc := 19) d_X10_lay_19 rfl ?_
  refine zx_getR (pc := 20) d_X10_lay_20 lk_CutStones_65 (by decide) g1 g2 ?_
  refine zv_iload_n (pc := 23) d_X10_lay_23 rfl ?_
  refine zv_iconst (pc := 24) d_X10_lay_24 zc_i_2 ?_
  refine zv_iadd (pc := 25) d_X10_lay_25 ?_
  refine zv_iload_n (pc := 26) d_X10_lay_26 rfl ?_
  refine zv_bipush (pc := 27) d_X10_lay_27 zc_b_12 ?_
  refine zv_idiv (pc := 29) d_X10_lay_29 (by decide +kernel) ?_
  obtain ⟨i7, hf⟩ := zw_inE hf
  obtain ⟨I8, eI8, hf⟩ := zw_letE hf
  refine zx_iast (pc := 30) (I2 := I8) d_X10_lay_30 g2 i7 eI8 ?_
  cases hf
  exact zx_vret (pc := 31) d_X10_lay_31 rfl hk
abbrev M_X10_place : zw_M := (⟨"CutStones", "place", "()I"⟩, prog_1_method_5_code, 1, (Option.some Jvm.ClassFile.FieldType.int))
theorem d_X10_place_0 : decode M_X10_place.2.1 0 = .ok (.aload_n 0, 1) := by decide +kernel
theorem d_X10_place_1 : decode M_X10_place.2.1 1 = .ok (.getfield 19, 3) := by decide +kernel
theorem d_X10_place_4 : decode M_X10_place.2.1 4 = .ok (.getfield 113, 3) := by decide +kernel
theorem d_X10_place_7 : decode M_X10_place.2.1 7 = .ok (.ireturn, 1) := by decide +kernel
theorem ce_X10_place : zw_CeV M_X10_place 0 := ⟨⟨⟨by decide +kernel, by decide +kernel, by decide +kernel⟩, (zw_mG (List.mem_of_getElem? (i := 836) (by decide +kernel)) rfl), (zw_mG (List.mem_of_getElem? (i := 96) (by decide +kernel)) rfl), by decide, by decide +kernel⟩, (zw_mG (List.mem_of_getElem? (i := 834) (by decide +kernel)) rfl), (zw_mG (List.mem_of_getElem? (i := 835) (by decide +kernel)) rfl)⟩
def f_X10_place (v0 : Nat) (I : zI) (R : zR) : Option (Int32) :=
  zw_g (zw_gc v0 10) (zw_g (zw_gc (R v0 1) 3) (some (I (R v0 1) 1)))
theorem c_X10_place (X : zw_X) (v0 : Nat) (I : zI) (R : zR) (J : zJ) {P : Option Value → aS → Prop} (o : Int32) (hf : f_X10_place v0 I R = some o) (hk : P (some (.int o)) (I, R, J)) : zw_C X M_X10_place 0 0 0 199 [.ref v0] (I, R, J) P := by
  show zy_V X M_X10_place 0 P 0 [.ref v0] [] (I, R, J)
  unfold f_X10_place at hf
  refine zv_aload_n (pc := 0) d_X10_place_0 rfl ?_
  obtain ⟨g1, hf⟩ := zw_gcE hf (by decide)
  obtain ⟨g2, hf⟩ := zw_gcE hf (by decide)
  refine zx_getR (pc := 1) d_X10_place_1 lk_CutStones_19 (by decide) g1 g2 ?_
  refine zx_getI (pc := 4) d_X10_place_4 lk_CutStones_113 (by decide) g2 ?_
  cases hf
  exact zx_iret (pc := 7) d_X10_place_7 rfl hk
abbrev M_X10_seen : zw_M := (⟨"CutStones", "seen", "(I)I"⟩, prog_1_method_13_code, 2, (Option.some Jvm.ClassFile.FieldType.int))
theorem d_X10_seen_0 : decode M_X10_seen.2.1 0 = .ok (.aload_n 0, 1) := by decide +kernel
theorem d_X10_seen_1 : decode M_X10_seen.2.1 1 = .ok (.getfield 48, 3) := by decide +kernel
theorem d_X10_seen_4 : decode M_X10_seen.2.1 4 = .ok (.ifCond .eq 25, 3) := by decide +kernel
theorem d_X10_seen_7 : decode M_X10_seen.2.1 7 = .ok (.iload_n 1, 1) := by decide +kernel
theorem d_X10_seen_8 : decode M_X10_seen.2.1 8 = .ok (.ifCond .lt 21, 3) := by decide +kernel
theorem d_X10_seen_11 : decode M_X10_seen.2.1 11 = .ok (.iload_n 1, 1) := by decide +kernel
theorem d_X10_seen_12 : decode M_X10_seen.2.1 12 = .ok (.bipush 9, 2) := by decide +kernel
theorem d_X10_seen_14 : decode M_X10_seen.2.1 14 = .ok (.if_icmp .ge 15, 3) := by decide +kernel
theorem d_X10_seen_17 : decode M_X10_seen.2.1 17 = .ok (.aload_n 0, 1) := by decide +kernel
theorem d_X10_seen_18 : decode M_X10_seen.2.1 18 = .ok (.getfield 44, 3) := by decide +kernel
theorem d_X10_seen_21 : decode M_X10_seen.2.1 21 = .ok (.getfield 191, 3) := by decide +kernel
theorem d_X10_seen_24 : decode M_X10_seen.2.1 24 = .ok (.iload_n 1, 1) := by decide +kernel
theorem d_X10_seen_25 : decode M_X10_seen.2.1 25 = .ok (.iaload, 1) := by decide +kernel
theorem d_X10_seen_26 : decode M_X10_seen.2.1 26 = .ok (.goto 4, 3) := by decide +kernel
theorem d_X10_seen_29 : decode M_X10_seen.2.1 29 = .ok (.iconst (-1), 1) := by decide +kernel
theorem d_X10_seen_30 : decode M_X10_seen.2.1 30 = .ok (.ireturn, 1) := by decide +kernel
theorem ce_X10_seen : zw_CeV M_X10_seen 1 := ⟨⟨⟨by decide +kernel, by decide +kernel, by decide +kernel⟩, (zw_mG (List.mem_of_getElem? (i := 969) (by decide +kernel)) rfl), (zw_mG (List.mem_of_getElem? (i := 96) (by decide +kernel)) rfl), by decide, by decide +kernel⟩, (zw_mG (List.mem_of_getElem? (i := 967) (by decide +kernel)) rfl), (zw_mG (List.mem_of_getElem? (i := 968) (by decide +kernel)) rfl)⟩
def f_X10_seen (v0 : Nat) (v1 : Int32) (I : zI) (R : zR) : Option (Int32) :=
  zw_g (zw_gc v0 10) (if (I v0 6) = 0 then some (-1) else if v1 < 0 then some (-1) else if 9 ≤ v1 then some (-1) else zw_g (zw_gc (R v0 5) 6) (zw_g (zw_gc (R (R v0 5) 0) 13) (zw_g (zw_in v1 (zw_SH (R (R v0 5) 0)).2) (some (I (R (R v0 5) 0) (Int32.toNatClampNeg v1))))))
theorem c_X10_seen (X : zw_X) (v0 : Nat) (v1 : Int32) (I : zI) (R : zR) (J : zJ) {P : Option Value → aS → Prop} (o : Int32) (hf : f_X10_seen v0 v1 I R = some o) (hk : P (some (.int o)) (I, R, J)) : zw_C X M_X10_seen 0 0 0 199 [.ref v0, .int v1] (I, R, J) P := by
  show zy_V X M_X10_seen 0 P 0 [.ref v0, .int v1] [] (I, R, J)
  unfold f_X10_seen at hf
  refine zv_aload_n (pc := 0) d_X10_seen_0 rfl ?_
  obtain ⟨g1, hf⟩ := zw_gcE hf (by decide)
  refine zx_getI (pc := 1) d_X10_seen_1 lk_CutStones_48 (by decide) g1 ?_
  rcases zw_ifE hf with ⟨c2, hf⟩ | ⟨c2, hf⟩
  · refine zv_if_eq (pc := 4) (tg := 29) d_X10_seen_4 (by decide) (fun _ => ?_) (fun q => absurd c2 q)
    refine zv_iconst (pc := 29) d_X10_seen_29 zc_i_m1 ?_
    cases hf
    exact zx_iret (pc := 30) d_X10_seen_30 rfl hk
  · refine zv_if_eq (pc := 4) (tg := 29) d_X10_seen_4 (by decide) (fun q => absurd q c2) (fun _ => ?_)
    refine zv_iload_n (pc := 7) d_X10_seen_7 rfl ?_
    rcases zw_ifE hf with ⟨c3, hf⟩ | ⟨c3, hf⟩
    · refine zv_if_lt (pc := 8) (tg := 29) d_X10_seen_8 (by decide) (fun _ => ?_) (fun q => absurd c3 q)
      refine zv_iconst (pc := 29) d_X10_seen_29 zc_i_m1 ?_
      cases hf
      exact zx_iret (pc := 30) d_X10_seen_30 rfl hk
    · refine zv_if_lt (pc := 8) (tg := 29) d_X10_seen_8 (by decide) (fun q => absurd q c3) (fun _ => ?_)
      refine zv_iload_n (pc := 11) d_X10_seen_11 rfl ?_
      refine zv_bipush (pc := 12) d_X10_seen_12 zc_b_9 ?_
      rcases zw_ifE hf with ⟨c4, hf⟩ | ⟨c4, hf⟩
      · refine zv_icmp_ge (pc := 14) (tg := 29) d_X10_seen_14 (by decide) (fun _ => ?_) (fun q => absurd c4 q)
        refine zv_iconst (pc := 29) d_X10_seen_29 zc_i_m1 ?_
        cases hf
        exact zx_iret (pc := 30) d_X10_seen_30 rfl hk
      · refine zv_icmp_ge (pc := 14) (tg := 29) d_X10_seen_14 (by decide) (fun q => absurd q c4) (fun _ => ?_)
        refine zv_aload_n (pc := 17) d_X10_seen_17 rfl ?_
        obtain ⟨g5, hf⟩ := zw_gcE hf (by decide)
        refine zx_getR (pc := 18) d_X10_seen_18 lk_CutStones_44 (by decide) g1 g5 ?_
        obtain ⟨g6, hf⟩ := zw_gcE hf (by decide)
        refine zx_getR (pc := 21) d_X10_seen_21 lk_CutStones_191 (by decide) g5 g6 ?_
        refine zv_iload_n (pc := 24) d_X10_seen_24 rfl ?_
        obtain ⟨i7, hf⟩ := zw_inE hf
        refine zx_iald (pc := 25) d_X10_seen_25 g6 i7 ?_
        refine zv_goto (pc := 26) (tg := 30) d_X10_seen_26 (by decide) ?_
        cases hf
        exact zx_iret (pc := 30) d_X10_seen_30 rfl hk
abbrev M_X10_spark : zw_M := (⟨"CutStones", "spark", "(I)I"⟩, prog_1_method_11_code, 2, (Option.some Jvm.ClassFile.FieldType.int))
theorem d_X10_spark_0 : decode M_X10_spark.2.1 0 = .ok (.aload_n 0, 1) := by decide +kernel
theorem d_X10_spark_1 : decode M_X10_spark.2.1 1 = .ok (.getfield 37, 3) := by decide +kernel
theorem d_X10_spark_4 : decode M_X10_spark.2.1 4 = .ok (.ifCond .eq 25, 3) := by decide +kernel
theorem d_X10_spark_7 : decode M_X10_spark.2.1 7 = .ok (.iload_n 1, 1) := by decide +kernel
theorem d_X10_spark_8 : decode M_X10_spark.2.1 8 = .ok (.ifCond .lt 21, 3) := by decide +kernel
theorem d_X10_spark_11 : decode M_X10_spark.2.1 11 = .ok (.iload_n 1, 1) := by decide +kernel
theorem d_X10_spark_12 : decode M_X10_spark.2.1 12 = .ok (.bipush 6, 2) := by decide +kernel
theorem d_X10_spark_14 : decode M_X10_spark.2.1 14 = .ok (.if_icmp .gt 15, 3) := by decide +kernel
theorem d_X10_spark_17 : decode M_X10_spark.2.1 17 = .ok (.aload_n 0, 1) := by decide +kernel
theorem d_X10_spark_18 : decode M_X10_spark.2.1 18 = .ok (.getfield 33, 3) := by decide +kernel
theorem d_X10_spark_21 : decode M_X10_spark.2.1 21 = .ok (.getfield 177, 3) := by decide +kernel
theorem d_X10_spark_24 : decode M_X10_spark.2.1 24 = .ok (.iload_n 1, 1) := by decide +kernel
theorem d_X10_spark_25 : decode M_X10_spark.2.1 25 = .ok (.iaload, 1) := by decide +kernel
theorem d_X10_spark_26 : decode M_X10_spark.2.1 26 = .ok (.goto 4, 3) := by decide +kernel
theorem d_X10_spark_29 : decode M_X10_spark.2.1 29 = .ok (.iconst (-1), 1) := by decide +kernel
theorem d_X10_spark_30 : decode M_X10_spark.2.1 30 = .ok (.ireturn, 1) := by decide +kernel
theorem ce_X10_spark : zw_CeV M_X10_spark 1 := ⟨⟨⟨by decide +kernel, by decide +kernel, by decide +kernel⟩, (zw_mG (List.mem_of_getElem? (i := 929) (by decide +kernel)) rfl), (zw_mG (List.mem_of_getElem? (i := 96) (by decide +kernel)) rfl), by decide, by decide +kernel⟩, (zw_mG (List.mem_of_getElem? (i := 927) (by decide +kernel)) rfl), (zw_mG (List.mem_of_getElem? (i := 928) (by decide +kernel)) rfl)⟩
def f_X10_spark (v0 : Nat) (v1 : Int32) (I : zI) (R : zR) : Option (Int32) :=
  zw_g (zw_gc v0 10) (if (I v0 4) = 0 then some (-1) else if v1 < 0 then some (-1) else if 6 < v1 then some (-1) else zw_g (zw_gc (R v0 3) 2) (zw_g (zw_gc (R (R v0 3) 2) 13) (zw_g (zw_in v1 (zw_SH (R (R v0 3) 2)).2) (some (I (R (R v0 3) 2) (Int32.toNatClampNeg v1))))))
theorem c_X10_spark (X : zw_X) (v0 : Nat) (v1 : Int32) (I : zI) (R : zR) (J : zJ) {P : Option Value → aS → Prop} (o : Int32) (hf : f_X10_spark v0 v1 I R = some o) (hk : P (some (.int o)) (I, R, J)) : zw_C X M_X10_spark 0 0 0 199 [.ref v0, .int v1] (I, R, J) P := by
  show zy_V X M_X10_spark 0 P 0 [.ref v0, .int v1] [] (I, R, J)
  unfold f_X10_spark at hf
  refine zv_aload_n (pc := 0) d_X10_spark_0 rfl ?_
  obtain ⟨g1, hf⟩ := zw_gcE hf (by decide)
  refine zx_getI (pc := 1) d_X10_spark_1 lk_CutStones_37 (by decide) g1 ?_
  rcases zw_ifE hf with ⟨c2, hf⟩ | ⟨c2, hf⟩
  · refine zv_if_eq (pc := 4) (tg := 29) d_X10_spark_4 (by decide) (fun _ => ?_) (fun q => absurd c2 q)
    refine zv_iconst (pc := 29) d_X10_spark_29 zc_i_m1 ?_
    cases hf
    exact zx_iret (pc := 30) d_X10_spark_30 rfl hk
  · refine zv_if_eq (pc := 4) (tg := 29) d_X10_spark_4 (by decide) (fun q => absurd q c2) (fun _ => ?_)
    refine zv_iload_n (pc := 7) d_X10_spark_7 rfl ?_
    rcases zw_ifE hf with ⟨c3, hf⟩ | ⟨c3, hf⟩
    · refine zv_if_lt (pc := 8) (tg := 29) d_X10_spark_8 (by decide) (fun _ => ?_) (fun q => absurd c3 q)
      refine zv_iconst (pc := 29) d_X10_spark_29 zc_i_m1 ?_
      cases hf
      exact zx_iret (pc := 30) d_X10_spark_30 rfl hk
    · refine zv_if_lt (pc := 8) (tg := 29) d_X10_spark_8 (by decide) (fun q => absurd q c3) (fun _ => ?_)
      refine zv_iload_n (pc := 11) d_X10_spark_11 rfl ?_
      refine zv_bipush (pc := 12) d_X10_spark_12 zc_b_6 ?_
      rcases zw_ifE hf with ⟨c4, hf⟩ | ⟨c4, hf⟩
      · refine zv_icmp_gt (pc := 14) (tg := 29) d_X10_spark_14 (by decide) (fun _ => ?_) (fun q => absurd c4 q)
        refine zv_iconst (pc := 29) d_X10_spark_29 zc_i_m1 ?_
        cases hf
        exact zx_iret (pc := 30) d_X10_spark_30 rfl hk
      · refine zv_icmp_gt (pc := 14) (tg := 29) d_X10_spark_14 (by decide) (fun q => absurd q c4) (fun _ => ?_)
        refine zv_aload_n (pc := 17) d_X10_spark_17 rfl ?_
        obtain ⟨g5, hf⟩ := zw_gcE hf (by decide)
        refine zx_getR (pc := 18) d_X10_spark_18 lk_CutStones_33 (by decide) g1 g5 ?_
        obtain ⟨g6, hf⟩ := zw_gcE hf (by decide)
        refine zx_getR (pc := 21) d_X10_spark_21 lk_CutStones_177 (by decide) g5 g6 ?_
        refine zv_iload_n (pc := 24) d_X10_spark_24 rfl ?_
        obtain ⟨i7, hf⟩ := zw_inE hf
        refine zx_iald (pc := 25) d_X10_spark_25 g6 i7 ?_
        refine zv_goto (pc := 26) (tg := 30) d_X10_spark_26 (by decide) ?_
        cases hf
        exact zx_iret (pc := 30) d_X10_spark_30 rfl hk
abbrev M_X10_step : zw_M := (⟨"CutStones", "step", "(I)I"⟩, prog_1_method_10_code, 2, (Option.some Jvm.ClassFile.FieldType.int))
theorem d_X10_step_0 : decode M_X10_step.2.1 0 = .ok (.aload_n 0, 1) := by decide +kernel
theorem d_X10_step_1 : decode M_X10_step.2.1 1 = .ok (.getfield 37, 3) := by decide +kernel
theorem d_X10_step_4 : decode M_X10_step.2.1 4 = .ok (.ifCond .eq 30, 3) := by decide +kernel
theorem d_X10_step_7 : decode M_X10_step.2.1 7 = .ok (.iload_n 1, 1) := by decide +kernel
theorem d_X10_step_8 : decode M_X10_step.2.1 8 = .ok (.ifCond .lt 26, 3) := by decide +kernel
theorem d_X10_step_11 : decode M_X10_step.2.1 11 = .ok (.iload_n 1, 1) := by decide +kernel
theorem d_X10_step_12 : decode M_X10_step.2.1 12 = .ok (.aload_n 0, 1) := by decide +kernel
theorem d_X10_step_13 : decode M_X10_step.2.1 13 = .ok (.getfield 33, 3) := by decide +kernel
theorem d_X10_step_16 : decode M_X10_step.2.1 16 = .ok (.getfield 171, 3) := by decide +kernel
theorem d_X10_step_19 : decode M_X10_step.2.1 19 = .ok (.if_icmp .ge 15, 3) := by decide +kernel
theorem d_X10_step_22 : decode M_X10_step.2.1 22 = .ok (.aload_n 0, 1) := by decide +kernel
theorem d_X10_step_23 : decode M_X10_step.2.1 23 = .ok (.getfield 33, 3) := by decide +kernel
theorem d_X10_step_26 : decode M_X10_step.2.1 26 = .ok (.getfield 174, 3) := by decide +kernel
theorem d_X10_step_29 : decode M_X10_step.2.1 29 = .ok (.iload_n 1, 1) := by decide +kernel
theorem d_X10_step_30 : decode M_X10_step.2.1 30 = .ok (.iaload, 1) := by decide +kernel
theorem d_X10_step_31 : decode M_X10_step.2.1 31 = .ok (.goto 4, 3) := by decide +kernel
theorem d_X10_step_34 : decode M_X10_step.2.1 34 = .ok (.iconst (-1), 1) := by decide +kernel
theorem d_X10_step_35 : decode M_X10_step.2.1 35 = .ok (.ireturn, 1) := by decide +kernel
theorem ce_X10_step : zw_CeV M_X10_step 1 := ⟨⟨⟨by decide +kernel, by decide +kernel, by decide +kernel⟩, (zw_mG (List.mem_of_getElem? (i := 925) (by decide +kernel)) rfl), (zw_mG (List.mem_of_getElem? (i := 96) (by decide +kernel)) rfl), by decide, by decide +kernel⟩, (zw_mG (List.mem_of_getElem? (i := 923) (by decide +kernel)) rfl), (zw_mG (List.mem_of_getElem? (i := 924) (by decide +kernel)) rfl)⟩
def f_X10_step (v0 : Nat) (v1 : Int32) (I : zI) (R : zR) : Option (Int32) :=
  zw_g (zw_gc v0 10) (if (I v0 4) = 0 then some (-1) else if v1 < 0 then some (-1) else zw_g (zw_gc (R v0 3) 2) (if (I (R v0 3) 1) ≤ v1 then some (-1) else zw_g (zw_gc (R (R v0 3) 0) 13) (zw_g (zw_in v1 (zw_SH (R (R v0 3) 0)).2) (some (I (R (R v0 3) 0) (Int32.toNatClampNeg v1))))))
theorem c_X10_step (X : zw_X) (v0 : Nat) (v1 : Int32) (I : zI) (R : zR) (J : zJ) {P : Option Value → aS → Prop} (o : Int32) (hf : f_X10_step v0 v1 I R = some o) (hk : P (some (.int o)) (I, R, J)) : zw_C X M_X10_step 0 0 0 199 [.ref v0, .int v1] (I, R, J) P := by
  show zy_V X M_X10_step 0 P 0 [.ref v0, .int v1] [] (I, R, J)
  unfold f_X10_step at hf
  refine zv_aload_n (pc := 0) d_X10_step_0 rfl ?_
  obtain ⟨g1, hf⟩ := zw_gcE hf (by decide)
  refine zx_getI (pc := 1) d_X10_step_1 lk_CutStones_37 (by decide) g1 ?_
  rcases zw_ifE hf with ⟨c2, hf⟩ | ⟨c2, hf⟩
  · refine zv_if_eq (pc := 4) (tg := 34) d_X10_step_4 (by decide) (fun _ => ?_) (fun q => absurd c2 q)
    refine zv_iconst (pc := 34) d_X10_step_34 zc_i_m1 ?_
    cases hf
    exact zx_iret (pc := 35) d_X10_step_35 rfl hk
  · refine zv_if_eq (pc := 4) (tg := 34) d_X10_step_4 (by decide) (fun q => absurd q c2) (fun _ => ?_)
    refine zv_iload_n (pc := 7) d_X10_step_7 rfl ?_
    rcases zw_ifE hf with ⟨c3, hf⟩ | ⟨c3, hf⟩
    · refine zv_if_lt (pc := 8) (tg := 34) d_X10_step_8 (by decide) (fun _ => ?_) (fun q => absurd c3 q)
      refine zv_iconst (pc := 34) d_X10_step_34 zc_i_m1 ?_
      cases hf
      exact zx_iret (pc := 35) d_X10_step_35 rfl hk
    · refine zv_if_lt (pc := 8) (tg := 34) d_X10_step_8 (by decide) (fun q => absurd q c3) (fun _ => ?_)
      refine zv_iload_n (pc := 11) d_X10_step_11 rfl ?_
      refine zv_aload_n (pc := 12) d_X10_step_12 rfl ?_
      obtain ⟨g4, hf⟩ := zw_gcE hf (by decide)
      refine zx_getR (pc := 13) d_X10_step_13 lk_CutStones_33 (by decide) g1 g4 ?_
      refine zx_getI (pc := 16) d_X10_step_16 lk_CutStones_171 (by decide) g4 ?_
      rcases zw_ifE hf with ⟨c5, hf⟩ | ⟨c5, hf⟩
      · refine zv_icmp_ge (pc := 19) (tg := 34) d_X10_step_19 (by decide) (fun _ => ?_) (fun q => absurd c5 q)
        refine zv_iconst (pc := 34) d_X10_step_34 zc_i_m1 ?_
        cases hf
        exact zx_iret (pc := 35) d_X10_step_35 rfl hk
      · refine zv_icmp_ge (pc := 19) (tg := 34) d_X10_step_19 (by decide) (fun q => absurd q c5) (fun _ => ?_)
        refine zv_aload_n (pc := 22) d_X10_step_22 rfl ?_
        refine zx_getR (pc := 23) d_X10_step_23 lk_CutStones_33 (by decide) g1 g4 ?_
        obtain ⟨g6, hf⟩ := zw_gcE hf (by decide)
        refine zx_getR (pc := 26) d_X10_step_26 lk_CutStones_174 (by decide) g4 g6 ?_
        refine zv_iload_n (pc := 29) d_X10_step_29 rfl ?_
        obtain ⟨i7, hf⟩ := zw_inE hf
        refine zx_iald (pc := 30) d_X10_step_30 g6 i7 ?_
        refine zv_goto (pc := 31) (tg := 35) d_X10_step_31 (by decide) ?_
        cases hf
        exact zx_iret (pc := 35) d_X10_step_35 rfl hk
abbrev M_X11_across : zw_M := (⟨"CutStonesModel", "across", "(I)I"⟩, prog_13_method_41_code, 1, (Option.some Jvm.ClassFile.FieldType.int))
theorem d_X11_across_0 : decode M_X11_across.2.1 0 = .ok (.iload_n 0, 1) := by decide +kernel
theorem d_X11_across_1 : decode M_X11_across.2.1 1 = .ok (.iconst 1, 1) := by decide +kernel
theorem d_X11_across_2 : decode M_X11_across.2.1 2 = .ok (.if_icmp .eq 8, 3) := by decide +kernel
theorem d_X11_across_5 : decode M_X11_across.2.1 5 = .ok (.iload_n 0, 1) := by decide +kernel
theorem d_X11_across_6 : decode M_X11_across.2.1 6 = .ok (.iconst 4, 1) := by decide +kernel
theorem d_X11_across_7 : decode M_X11_across.2.1 7 = .ok (.if_icmp .ne 7, 3) := by decide +kernel
theorem d_X11_across_10 : decode M_X11_across.2.1 10 = .ok (.iconst 3, 1) := by decide +kernel
theorem d_X11_across_11 : decode M_X11_across.2.1 11 = .ok (.goto 4, 3) := by decide +kernel
theorem d_X11_across_14 : decode M_X11_across.2.1 14 = .ok (.iconst 1, 1) := by decide +kernel
theorem d_X11_across_15 : decode M_X11_across.2.1 15 = .ok (.ireturn, 1) := by decide +kernel
theorem ce_X11_across : zw_CeS M_X11_across 1 := ⟨⟨⟨by decide +kernel, by decide +kernel, by decide +kernel⟩, (zw_mG (List.mem_of_getElem? (i := 1582) (by decide +kernel)) rfl), (zw_mG (List.mem_of_getElem? (i := 108) (by decide +kernel)) rfl), by decide, by decide +kernel⟩, (zw_mG (List.mem_of_getElem? (i := 1581) (by decide +kernel)) rfl)⟩
def j_X11_across_10   : Option (Int32) :=
  some 3
theorem j_X11_across_10_ok (X : zw_X) (P : Option Value → aS → Prop)  (I : zI) (R : zR) (J : zJ) (o : Int32) (hf : j_X11_across_10  = some o) (hk : P (some (.int o)) (I, R, J)) : zy_V X M_X11_across 0 P 10 [.null] [] (I, R, J) := by
  unfold j_X11_across_10 at hf
  refine zv_iconst (pc := 10) d_X11_across_10 zc_i_3 ?_
  refine zv_goto (pc := 11) (tg := 15) d_X11_across_11 (by decide) ?_
  cases hf
  exact zx_iret (pc := 15) d_X11_across_15 rfl hk
def f_X11_across (v0 : Int32)  : Option (Int32) :=
  if v0 = 1 then j_X11_across_10 else if ¬ v0 = 4 then some 1 else j_X11_across_10
theorem c_X11_across (X : zw_X) (v0 : Int32) (I : zI) (R : zR) (J : zJ) {P : Option Value → aS → Prop} (o : Int32) (hf : f_X11_across v0  = some o) (hk : P (some (.int o)) (I, R, J)) : zw_C X M_X11_across 0 0 0 199 [.int v0] (I, R, J) P := by
  show zy_V X M_X11_across 0 P 0 [.int v0] [] (I, R, J)
  unfold f_X11_across at hf
  refine zv_iload_n (pc := 0) d_X11_across_0 rfl ?_
  refine zv_iconst (pc := 1) d_X11_across_1 zc_i_1 ?_
  rcases zw_ifE hf with ⟨c1, hf⟩ | ⟨c1, hf⟩
  · refine zv_icmp_eq (pc := 2) (tg := 10) d_X11_across_2 (by decide) (fun _ => ?_) (fun q => absurd c1 q)
    exact zx_weak (zw_leN zw_leZ) (j_X11_across_10_ok X P I R J _ hf hk)
  · refine zv_icmp_eq (pc := 2) (tg := 10) d_X11_across_2 (by decide) (fun q => absurd q c1) (fun _ => ?_)
    refine zv_iload_n (pc := 5) d_X11_across_5 rfl ?_
    refine zv_iconst (pc := 6) d_X11_across_6 zc_i_4 ?_
    rcases zw_ifE hf with ⟨c2, hf⟩ | ⟨c2, hf⟩
    · refine zv_icmp_ne (pc := 7) (tg := 14) d_X11_across_7 (by decide) (fun _ => ?_) (fun q => absurd q c2)
      refine zv_iconst (pc := 14) d_X11_across_14 zc_i_1 ?_
      cases hf
      exact zx_iret (pc := 15) d_X11_across_15 rfl hk
    · refine zv_icmp_ne (pc := 7) (tg := 14) d_X11_across_7 (by decide) (fun q => absurd q c2) (fun _ => ?_)
      exact zx_weak (zw_leN zw_leZ) (j_X11_across_10_ok X P I R J _ hf hk)
abbrev M_X11_again : zw_M := (⟨"CutStonesModel", "again", "()V"⟩, prog_13_method_64_code, 2, (Option.none : Option Jvm.ClassFile.FieldType))
theorem d_X11_again_0 : decode M_X11_again.2.1 0 = .ok (.iconst 0, 1) := by decide +kernel
theorem d_X11_again_1 : decode M_X11_again.2.1 1 = .ok (.istore_n 1, 1) := by decide +kernel
theorem d_X11_again_2 : decode M_X11_again.2.1 2 = .ok (.iload_n 1, 1) := by decide +kernel
theorem d_X11_again_3 : decode M_X11_again.2.1 3 = .ok (.bipush 8, 2) := by decide +kernel
theorem d_X11_again_5 : decode M_X11_again.2.1 5 = .ok (.if_icmp .ge 21, 3) := by decide +kernel
theorem d_X11_again_8 : decode M_X11_again.2.1 8 = .ok (.aload_n 0, 1) := by decide +kernel
theorem d_X11_again_9 : decode M_X11_again.2.1 9 = .ok (.getfield 119, 3) := by decide +kernel
theorem d_X11_again_12 : decode M_X11_again.2.1 12 = .ok (.iload_n 1, 1) := by decide +kernel
theorem d_X11_again_13 : decode M_X11_again.2.1 13 = .ok (.aload_n 0, 1) := by decide +kernel
theorem d_X11_again_14 : decode M_X11_again.2.1 14 = .ok (.getfield 140, 3) := by decide +kernel
theorem d_X11_again_17 : decode M_X11_again.2.1 17 = .ok (.iload_n 1, 1) := by decide +kernel
theorem d_X11_again_18 : decode M_X11_again.2.1 18 = .ok (.iaload, 1) := by decide +kernel
theorem d_X11_again_19 : decode M_X11_again.2.1 19 = .ok (.iastore, 1) := by decide +kernel
theorem d_X11_again_20 : decode M_X11_again.2.1 20 = .ok (.iinc 1 1, 3) := by decide +kernel
theorem d_X11_again_23 : decode M_X11_again.2.1 23 = .ok (.goto (-21), 3) := by decide +kernel
theorem d_X11_again_26 : decode M_X11_again.2.1 26 = .ok (.return_, 1) := by decide +kernel
theorem ce_X11_again : zw_CeV M_X11_again 0 := ⟨⟨⟨by decide +kernel, by decide +kernel, by decide +kernel⟩, (zw_mG (List.mem_of_getElem? (i := 1623) (by decide +kernel)) rfl), (zw_mG (List.mem_of_getElem? (i := 108) (by decide +kernel)) rfl), by decide, by decide +kernel⟩, (zw_mG (List.mem_of_getElem? (i := 1622) (by decide +kernel)) rfl), (zw_mG (List.mem_of_getElem? (i := 81) (by decide +kernel)) rfl)⟩
def s_X11_again_2 (v0 : Nat) (R : zR) (s : Int32 × zI) : Option ((Int32 × zI) ⊕ (zI)) :=
  if 8 ≤ s.1 then some (.inr s.2) else zw_g (zw_gc v0 11) (zw_g (zw_gc (R v0 49) 13) (zw_g (zw_gc (R v0 67) 13) (zw_g (zw_in s.1 (zw_SH (R v0 67)).2) (zw_g (zw_in s.1 (zw_SH (R v0 49)).2) (zw_let (zw_u s.2 (R v0 49) (Int32.toNatClampNeg s.1) (s.2 (R v0 67) (Int32.toNatClampNeg s.1)) : zI) fun I7 => (zw_let (s.1 + 1 : Int32) fun x8 => (some (.inl (x8, I7)))))))))
theorem s_X11_again_2_ok (X : zw_X) (P : Option Value → aS → Prop) (v0 : Nat) (R : zR) (J : zJ) (s : Int32 × zI) (o : (Int32 × zI) ⊕ (zI)) (hf : s_X11_again_2 v0 R s = some o) (hk : (zw_se (fun t => zy_V X M_X11_again 0 P 2 [.ref v0, .int t.1] [] (t.2, R, J)) (fun r => zy_V X M_X11_again 0 P 26 [.null, .null] [] (r, R, J)) o)) : zy_V X M_X11_again 0 P 2 [.ref v0, .int s.1] [] (s.2, R, J) := by
  unfold s_X11_again_2 at hf
  refine zv_iload_n (pc := 2) d_X11_again_2 rfl ?_
  refine zv_bipush (pc := 3) d_X11_again_3 zc_b_8 ?_
  rcases zw_ifE hf with ⟨c1, hf⟩ | ⟨c1, hf⟩
  · refine zv_icmp_ge (pc := 5) (tg := 26) d_X11_again_5 (by decide) (fun _ => ?_) (fun q => absurd c1 q)
    cases hf
    exact zx_weak (zw_leN (zw_leN zw_leZ)) hk
  · refine zv_icmp_ge (pc := 5) (tg := 26) d_X11_again_5 (by decide) (fun q => absurd q c1) (fun _ => ?_)
    refine zv_aload_n (pc := 8) d_X11_again_8 rfl ?_
    obtain ⟨g2, hf⟩ := zw_gcE hf (by decide)
    obtain ⟨g3, hf⟩ := zw_gcE hf (by decide)
    refine zx_getR (pc := 9) d_X11_again_9 lk_CutStonesModel_119 (by decide) g2 g3 ?_
    refine zv_iload_n (pc := 12) d_X11_again_12 rfl ?_
    refine zv_aload_n (pc := 13) d_X11_again_13 rfl ?_
    obtain ⟨g4, hf⟩ := zw_gcE hf (by decide)
    refine zx_getR (pc := 14) d_X11_again_14 lk_CutStonesModel_140 (by decide) g2 g4 ?_
    refine zv_iload_n (pc := 17) d_X11_again_17 rfl ?_
    obtain ⟨i5, hf⟩ := zw_inE hf
    refine zx_iald (pc := 18) d_X11_again_18 g4 i5 ?_
    obtain ⟨i6, hf⟩ := zw_inE hf
    obtain ⟨I7, eI7, hf⟩ := zw_letE hf
    refine zx_iast (pc := 19) (I2 := I7) d_X11_again_19 g3 i6 eI7 ?_
    obtain ⟨x8, ex8, hf⟩ := zw_letE hf
    refine zx_iinc (pc := 20) (x2 := x8) (L2 := [.ref v0, .int x8]) d_X11_again_20 (by decide) rfl zc_i_1 ex8 rfl ?_
    refine zv_goto (pc := 23) (tg := 2) d_X11_again_23 (by decide) ?_
    cases hf
    exact zx_weak (zw_leS (zw_leS zw_leZ)) hk
theorem s_X11_again_2_lp (X : zw_X) (P : Option Value → aS → Prop) (v0 : Nat) (R : zR) (J : zJ) (n : Nat) (s : Int32 × zI) (r : zI) (h : zw_it (s_X11_again_2 v0 R) n s = some r) (hq : zy_V X M_X11_again 0 P 26 [.null, .null] [] (r, R, J)) : zy_V X M_X11_again 0 P 2 [.ref v0, .int s.1] [] (s.2, R, J) :=
  zw_itE (A := (fun t : Int32 × zI => zy_V X M_X11_again 0 P 2 [.ref v0, .int t.1] [] (t.2, R, J))) (Q := (fun r : zI => zy_V X M_X11_again 0 P 26 [.null, .null] [] (r, R, J))) (fun s o h1 h2 => s_X11_again_2_ok X P v0 R J s o h1 h2) n s r h hq
def f_X11_again (v0 : Nat) (I : zI) (R : zR) : Option (zI) :=
  (zw_it (s_X11_again_2 v0 R) 1000000 (0, I)).bind fun q9 => (some q9)
theorem c_X11_again (X : zw_X) (v0 : Nat) (I : zI) (R : zR) (J : zJ) {P : Option Value → aS → Prop} (o : zI) (hf : f_X11_again v0 I R = some o) (hk : P none (o, R, J)) : zw_C X M_X11_again 0 0 0 199 [.ref v0] (I, R, J) P := by
  show zy_V X M_X11_again 0 P 0 [.ref v0, .null] [] (I, R, J)
  unfold f_X11_again at hf
  refine zv_iconst (pc := 0) d_X11_again_0 zc_i_0 ?_
  refine zx_istore_n (pc := 1) (x2 := 0) (L2 := [.ref v0, .int 0]) d_X11_again_1 (by decide) rfl rfl ?_
  obtain ⟨q9, hq9, hf⟩ := zw_bdE hf
  refine zx_weak (L' := [.ref v0, .int 0]) (zw_leS (zw_leS zw_leZ)) (s_X11_again_2_lp X P v0 R J _ _ _ hq9 ?_)
  show zy_V X M_X11_again 0 P 26 [.null, .null] [] (q9, R, J)
  cases hf
  exact zx_vret (pc := 26) d_X11_again_26 rfl hk
abbrev M_X11_back : zw_M := (⟨"CutStonesModel", "back", "(I)I"⟩, prog_13_method_5_code, 2, (Option.some Jvm.ClassFile.FieldType.int))
theorem d_X11_back_0 : decode M_X11_back.2.1 0 = .ok (.iload_n 1, 1) := by decide +kernel
theorem d_X11_back_1 : decode M_X11_back.2.1 1 = .ok (.ifCond .lt 11, 3) := by decide +kernel
theorem d_X11_back_4 : decode M_X11_back.2.1 4 = .ok (.iload_n 1, 1) := by decide +kernel
theorem d_X11_back_5 : decode M_X11_back.2.1 5 = .ok (.aload_n 0, 1) := by decide +kernel
theorem d_X11_back_6 : decode M_X11_back.2.1 6 = .ok (.getfield 177, 3) := by decide +kernel
theorem d_X11_back_9 : decode M_X11_back.2.1 9 = .ok (.if_icmp .le 5, 3) := by decide +kernel
theorem d_X11_back_12 : decode M_X11_back.2.1 12 = .ok (.iconst (-1), 1) := by decide +kernel
theorem d_X11_back_13 : decode M_X11_back.2.1 13 = .ok (.ireturn, 1) := by decide +kernel
theorem d_X11_back_14 : decode M_X11_back.2.1 14 = .ok (.aload_n 0, 1) := by decide +kernel
theorem d_X11_back_15 : decode M_X11_back.2.1 15 = .ok (.dup, 1) := by decide +kernel
theorem d_X11_back_16 : decode M_X11_back.2.1 16 = .ok (.getfield 177, 3) := by decide +kernel
theorem d_X11_back_19 : decode M_X11_back.2.1 19 = .ok (.iload_n 1, 1) := by decide +kernel
theorem d_X11_back_20 : decode M_X11_back.2.1 20 = .ok (.isub, 1) := by decide +kernel
theorem d_X11_back_21 : decode M_X11_back.2.1 21 = .ok (.putfield 177, 3) := by decide +kernel
theorem d_X11_back_24 : decode M_X11_back.2.1 24 = .ok (.aload_n 0, 1) := by decide +kernel
theorem d_X11_back_25 : decode M_X11_back.2.1 25 = .ok (.getfield 177, 3) := by decide +kernel
theorem d_X11_back_28 : decode M_X11_back.2.1 28 = .ok (.ireturn, 1) := by decide +kernel
theorem ce_X11_back : zw_CeV M_X11_back 1 := ⟨⟨⟨by decide +kernel, by decide +kernel, by decide +kernel⟩, (zw_mG (List.mem_of_getElem? (i := 1412) (by decide +kernel)) rfl), (zw_mG (List.mem_of_getElem? (i := 108) (by decide +kernel)) rfl), by decide, by decide +kernel⟩, (zw_mG (List.mem_of_getElem? (i := 1410) (by decide +kernel)) rfl), (zw_mG (List.mem_of_getElem? (i := 1411) (by decide +kernel)) rfl)⟩
def f_X11_back (v0 : Nat) (v1 : Int32) (I : zI) : Option (Int32 × zI) :=
  if v1 < 0 then some ((-1), I) else zw_g (zw_gc v0 11) (if v1 ≤ (I v0 2) then zw_let (zw_u I v0 2 ((I v0 2) - v1) : zI) fun I4 => (some ((I4 v0 2), I4)) else some ((-1), I))
theorem c_X11_back (X : zw_X) (v0 : Nat) (v1 : Int32) (I : zI) (R : zR) (J : zJ) {P : Option Value → aS → Prop} (o : Int32 × zI) (hf : f_X11_back v0 v1 I = some o) (hk : P (some (.int o.1)) (o.2, R, J)) : zw_C X M_X11_back 0 0 0 199 [.ref v0, .int v1] (I, R, J) P := by
  show zy_V X M_X11_back 0 P 0 [.ref v0, .int v1] [] (I, R, J)
  unfold f_X11_back at hf
  refine zv_iload_n (pc := 0) d_X11_back_0 rfl ?_
  rcases zw_ifE hf with ⟨c1, hf⟩ | ⟨c1, hf⟩
  · refine zv_if_lt (pc := 1) (tg := 12) d_X11_back_1 (by decide) (fun _ => ?_) (fun q => absurd c1 q)
    refine zv_iconst (pc := 12) d_X11_back_12 zc_i_m1 ?_
    cases hf
    exact zx_iret (pc := 13) d_X11_back_13 rfl hk
  · refine zv_if_lt (pc := 1) (tg := 12) d_X11_back_1 (by decide) (fun q => absurd q c1) (fun _ => ?_)
    refine zv_iload_n (pc := 4) d_X11_back_4 rfl ?_
    refine zv_aload_n (pc := 5) d_X11_back_5 rfl ?_
    obtain ⟨g2, hf⟩ := zw_gcE hf (by decide)
    refine zx_getI (pc := 6) d_X11_back_6 lk_CutStonesModel_177 (by decide) g2 ?_
    rcases zw_ifE hf with ⟨c3, hf⟩ | ⟨c3, hf⟩
    · refine zv_icmp_le (pc := 9) (tg := 14) d_X11_back_9 (by decide) (fun _ => ?_) (fun q => absurd c3 q)
      refine zv_aload_n (pc := 14) d_X11_back_14 rfl ?_
      refine zv_dup (pc := 15) d_X11_back_15 rfl ?_
      refine zx_getI (pc := 16) d_X11_back_16 lk_CutStonesModel_177 (by decide) g2 ?_
      refine zv_iload_n (pc := 19) d_X11_back_19 rfl ?_
      refine zv_isub (pc := 20) d_X11_back_20 ?_
      obtain ⟨I4, eI4, hf⟩ := zw_letE hf
      refine zx_putI (pc := 21) (I2 := I4) d_X11_back_21 lk_CutStonesModel_177 rfl g2 eI4 ?_
      refine zv_aload_n (pc := 24) d_X11_back_24 rfl ?_
      refine zx_getI (pc := 25) d_X11_back_25 lk_CutStonesModel_177 (by decide) g2 ?_
      cases hf
      exact zx_iret (pc := 28) d_X11_back_28 rfl hk
    · refine zv_icmp_le (pc := 9) (tg := 14) d_X11_back_9 (by decide) (fun q => absurd q c3) (fun _ => ?_)
      refine zv_iconst (pc := 12) d_X11_back_12 zc_i_m1 ?_
      cases hf
      exact zx_iret (pc := 13) d_X11_back_13 rfl hk
abbrev M_X11_byteAt : zw_M := (⟨"CutStonesModel", "byteAt", "(I)I"⟩, prog_13_method_6_code, 2, (Option.some Jvm.ClassFile.FieldType.int))
theorem d_X11_byteAt_0 : decode M_X11_byteAt.2.1 0 = .ok (.iload_n 1, 1) := by decide +kernel
theorem d_X11_byteAt_1 : decode M_X11_byteAt.2.1 1 = .ok (.aload_n 0, 1) := by decide +kernel
theorem d_X11_byteAt_2 : decode M_X11_byteAt.2.1 2 = .ok (.getfield 184, 3) := by decide +kernel
theorem d_X11_byteAt_5 : decode M_X11_byteAt.2.1 5 = .ok (.if_icmp .ge 16, 3) := by decide +kernel
theorem d_X11_byteAt_8 : decode M_X11_byteAt.2.1 8 = .ok (.aload_n 0, 1) := by decide +kernel
theorem d_X11_byteAt_9 : decode M_X11_byteAt.2.1 9 = .ok (.getfield 17, 3) := by decide +kernel
theorem d_X11_byteAt_12 : decode M_X11_byteAt.2.1 12 = .ok (.iload_n 1, 1) := by decide +kernel
theorem d_X11_byteAt_13 : decode M_X11_byteAt.2.1 13 = .ok (.baload, 1) := by decide +kernel
theorem d_X11_byteAt_14 : decode M_X11_byteAt.2.1 14 = .ok (.sipush 255, 3) := by decide +kernel
theorem d_X11_byteAt_17 : decode M_X11_byteAt.2.1 17 = .ok (.iand, 1) := by decide +kernel
theorem d_X11_byteAt_18 : decode M_X11_byteAt.2.1 18 = .ok (.goto 4, 3) := by decide +kernel
theorem d_X11_byteAt_21 : decode M_X11_byteAt.2.1 21 = .ok (.iconst 0, 1) := by decide +kernel
theorem d_X11_byteAt_22 : decode M_X11_byteAt.2.1 22 = .ok (.ireturn, 1) := by decide +kernel
theorem ce_X11_byteAt : zw_CeV M_X11_byteAt 1 := ⟨⟨⟨by decide +kernel, by decide +kernel, by decide +kernel⟩, (zw_mG (List.mem_of_getElem? (i := 1424) (by decide +kernel)) rfl), (zw_mG (List.mem_of_getElem? (i := 108) (by decide +kernel)) rfl), by decide, by decide +kernel⟩, (zw_mG (List.mem_of_getElem? (i := 1423) (by decide +kernel)) rfl), (zw_mG (List.mem_of_getElem? (i := 51) (by decide +kernel)) rfl)⟩
def f_X11_byteAt (v0 : Nat) (v1 : Int32) (I : zI) (R : zR) : Option (Int32) :=
  zw_g (zw_gc v0 11) (if (I v0 4) ≤ v1 then some 0 else zw_g (zw_gc (R v0 3) 12) (zw_g (zw_in v1 (zw_SH (R v0 3)).2) (some ((I (R v0 3) (Int32.toNatClampNeg v1)) &&& 255))))
theorem c_X11_byteAt (X : zw_X) (v0 : Nat) (v1 : Int32) (I : zI) (R : zR) (J : zJ) {P : Option Value → aS → Prop} (o : Int32) (hf : f_X11_byteAt v0 v1 I R = some o) (hk : P (some (.int o)) (I, R, J)) : zw_C X M_X11_byteAt 0 0 0 199 [.ref v0, .int v1] (I, R, J) P := by
  show zy_V X M_X11_byteAt 0 P 0 [.ref v0, .int v1] [] (I, R, J)
  unfold f_X11_byteAt at hf
  refine zv_iload_n (pc := 0) d_X11_byteAt_0 rfl ?_
  refine zv_aload_n (pc := 1) d_X11_byteAt_1 rfl ?_
  obtain ⟨g1, hf⟩ := zw_gcE hf (by decide)
  refine zx_getI (pc := 2) d_X11_byteAt_2 lk_CutStonesModel_184 (by decide) g1 ?_
  rcases zw_ifE hf with ⟨c2, hf⟩ | ⟨c2, hf⟩
  · refine zv_icmp_ge (pc := 5) (tg := 21) d_X11_byteAt_5 (by decide) (fun _ => ?_) (fun q => absurd c2 q)
    refine zv_iconst (pc := 21) d_X11_byteAt_21 zc_i_0 ?_
    cases hf
    exact zx_iret (pc := 22) d_X11_byteAt_22 rfl hk
  · refine zv_icmp_ge (pc := 5) (tg := 21) d_X11_byteAt_5 (by decide) (fun q => absurd q c2) (fun _ => ?_)
    refine zv_aload_n (pc := 8) d_X11_byteAt_8 rfl ?_
    obtain ⟨g3, hf⟩ := zw_gcE hf (by decide)
    refine zx_getR (pc := 9) d_X11_byteAt_9 lk_CutStonesModel_17 (by decide) g1 g3 ?_
    refine zv_iload_n (pc := 12) d_X11_byteAt_12 rfl ?_
    obtain ⟨i4, hf⟩ := zw_inE hf
    refine zx_bald (pc := 13) d_X11_byteAt_13 g3 i4 ?_
    refine zv_sipush (pc := 14) d_X11_byteAt_14 zc_s_255 ?_
    refine zv_iand (pc := 17) d_X11_byteAt_17 ?_
    refine zv_goto (pc := 18) (tg := 22) d_X11_byteAt_18 (by decide) ?_
    cases hf
    exact zx_iret (pc := 22) d_X11_byteAt_22 rfl hk
abbrev M_X11_cellAt : zw_M := (⟨"CutStonesModel", "cellAt", "(III)I"⟩, prog_13_method_38_code, 4, (Option.some Jvm.ClassFile.FieldType.int))
theorem d_X11_cellAt_0 : decode M_X11_cellAt.2.1 0 = .ok (.iload_n 2, 1) := by decide +kernel
theorem d_X11_cellAt_1 : decode M_X11_cellAt.2.1 1 = .ok (.ifCond .lt 27, 3) := by decide +kernel
theorem d_X11_cellAt_4 : decode M_X11_cellAt.2.1 4 = .ok (.iload_n 3, 1) := by decide +kernel
theorem d_X11_cellAt_5 : decode M_X11_cellAt.2.1 5 = .ok (.ifCond .lt 23, 3) := by decide +kernel
theorem d_X11_cellAt_8 : decode M_X11_cellAt.2.1 8 = .ok (.iload_n 2, 1) := by decide +kernel
theorem d_X11_cellAt_9 : decode M_X11_cellAt.2.1 9 = .ok (.aload_n 0, 1) := by decide +kernel
theorem d_X11_cellAt_10 : decode M_X11_cellAt.2.1 10 = .ok (.getfield 64, 3) := by decide +kernel
theorem d_X11_cellAt_13 : decode M_X11_cellAt.2.1 13 = .ok (.iload_n 1, 1) := by decide +kernel
theorem d_X11_cellAt_14 : decode M_X11_cellAt.2.1 14 = .ok (.iaload, 1) := by decide +kernel
theorem d_X11_cellAt_15 : decode M_X11_cellAt.2.1 15 = .ok (.if_icmp .ge 13, 3) := by decide +kernel
theorem d_X11_cellAt_18 : decode M_X11_cellAt.2.1 18 = .ok (.iload_n 3, 1) := by decide +kernel
theorem d_X11_cellAt_19 : decode M_X11_cellAt.2.1 19 = .ok (.aload_n 0, 1) := by decide +kernel
theorem d_X11_cellAt_20 : decode M_X11_cellAt.2.1 20 = .ok (.getfield 67, 3) := by decide +kernel
theorem d_X11_cellAt_23 : decode M_X11_cellAt.2.1 23 = .ok (.iload_n 1, 1) := by decide +kernel
theorem d_X11_cellAt_24 : decode M_X11_cellAt.2.1 24 = .ok (.iaload, 1) := by decide +kernel
theorem d_X11_cellAt_25 : decode M_X11_cellAt.2.1 25 = .ok (.if_icmp .lt 7, 3) := by decide +kernel
theorem d_X11_cellAt_28 : decode M_X11_cellAt.2.1 28 = .ok (.iconst 0, 1) := by decide +kernel
theorem d_X11_cellAt_29 : decode M_X11_cellAt.2.1 29 = .ok (.goto 20, 3) := by decide +kernel
theorem d_X11_cellAt_32 : decode M_X11_cellAt.2.1 32 = .ok (.aload_n 0, 1) := by decide +kernel
theorem d_X11_cellAt_33 : decode M_X11_cellAt.2.1 33 = .ok (.getfield 70, 3) := by decide +kernel
theorem d_X11_cellAt_36 : decode M_X11_cellAt.2.1 36 = .ok (.sipush 144, 3) := by decide +kernel
theorem d_X11_cellAt_39 : decode M_X11_cellAt.2.1 39 = .ok (.iload_n 1, 1) := by decide +kernel
theorem d_X11_cellAt_40 : decode M_X11_cellAt.2.1 40 = .ok (.imul, 1) := by decide +kernel
theorem d_X11_cellAt_41 : decode M_X11_cellAt.2.1 41 = .ok (.bipush 12, 2) := by decide +kernel
theorem d_X11_cellAt_43 : decode M_X11_cellAt.2.1 43 = .ok (.iload_n 3, 1) := by decide +kernel
theorem d_X11_cellAt_44 : decode M_X11_cellAt.2.1 44 = .ok (.imul, 1) := by decide +kernel
theorem d_X11_cellAt_45 : decode M_X11_cellAt.2.1 45 = .ok (.iadd, 1) := by decide +kernel
theorem d_X11_cellAt_46 : decode M_X11_cellAt.2.1 46 = .ok (.iload_n 2, 1) := by decide +kernel
theorem d_X11_cellAt_47 : decode M_X11_cellAt.2.1 47 = .ok (.iadd, 1) := by decide +kernel
theorem d_X11_cellAt_48 : decode M_X11_cellAt.2.1 48 = .ok (.iaload, 1) := by decide +kernel
theorem d_X11_cellAt_49 : decode M_X11_cellAt.2.1 49 = .ok (.ireturn, 1) := by decide +kernel
theorem ce_X11_cellAt : zw_CeV M_X11_cellAt 3 := ⟨⟨⟨by decide +kernel, by decide +kernel, by decide +kernel⟩, (zw_mG (List.mem_of_getElem? (i := 1536) (by decide +kernel)) rfl), (zw_mG (List.mem_of_getElem? (i := 108) (by decide +kernel)) rfl), by decide, by decide +kernel⟩, (zw_mG (List.mem_of_getElem? (i := 1535) (by decide +kernel)) rfl), (zw_mG (List.mem_of_getElem? (i := 74) (by decide +kernel)) rfl)⟩
def j_X11_cellAt_28  (I : zI) (R : zR) : Option (Int32) :=
  some 0
theorem j_X11_cellAt_28_ok (X : zw_X) (P : Option Value → aS → Prop)  (I : zI) (R : zR) (J : zJ) (o : Int32) (hf : j_X11_cellAt_28 I R = some o) (hk : P (some (.int o)) (I, R, J)) : zy_V X M_X11_cellAt 0 P 28 [.null, .null, .null, .null] [] (I, R, J) := by
  unfold j_X11_cellAt_28 at hf
  refine zv_iconst (pc := 28) d_X11_cellAt_28 zc_i_0 ?_
  refine zv_goto (pc := 29) (tg := 49) d_X11_cellAt_29 (by decide) ?_
  cases hf
  exact zx_iret (pc := 49) d_X11_cellAt_49 rfl hk
def f_X11_cellAt (v0 : Nat) (v1 : Int32) (v2 : Int32) (v3 : Int32) (I : zI) (R : zR) : Option (Int32) :=
  if v2 < 0 then j_X11_cellAt_28 I R else if v3 < 0 then j_X11_cellAt_28 I R else zw_g (zw_gc v0 11) (zw_g (zw_gc (R v0 28) 13) (zw_g (zw_in v1 (zw_SH (R v0 28)).2) (if (I (R v0 28) (Int32.toNatClampNeg v1)) ≤ v2 then j_X11_cellAt_28 I R else zw_g (zw_gc (R v0 29) 13) (zw_g (zw_in v1 (zw_SH (R v0 29)).2) (if v3 < (I (R v0 29) (Int32.toNatClampNeg v1)) then zw_g (zw_gc (R v0 30) 13) (zw_g (zw_in (((144 * v1) + (12 * v3)) + v2) (zw_SH (R v0 30)).2) (some (I (R v0 30) (Int32.toNatClampNeg (((144 * v1) + (12 * v3)) + v2))))) else j_X11_cellAt_28 I R)))))
theorem c_X11_cellAt (X : zw_X) (v0 : Nat) (v1 : Int32) (v2 : Int32) (v3 : Int32) (I : zI) (R : zR) (J : zJ) {P : Option Value → aS → Prop} (o : Int32) (hf : f_X11_cellAt v0 v1 v2 v3 I R = some o) (hk : P (some (.int o)) (I, R, J)) : zw_C X M_X11_cellAt 0 0 0 199 [.ref v0, .int v1, .int v2, .int v3] (I, R, J) P := by
  show zy_V X M_X11_cellAt 0 P 0 [.ref v0, .int v1, .int v2, .int v3] [] (I, R, J)
  unfold f_X11_cellAt at hf
  refine zv_iload_n (pc := 0) d_X11_cellAt_0 rfl ?_
  rcases zw_ifE hf with ⟨c1, hf⟩ | ⟨c1, hf⟩
  · refine zv_if_lt (pc := 1) (tg := 28) d_X11_cellAt_1 (by decide) (fun _ => ?_) (fun q => absurd c1 q)
    exact zx_weak (zw_leN (zw_leN (zw_leN (zw_leN zw_leZ)))) (j_X11_cellAt_28_ok X P I R J _ hf hk)
  · refine zv_if_lt (pc := 1) (tg := 28) d_X11_cellAt_1 (by decide) (fun q => absurd q c1) (fun _ => ?_)
    refine zv_iload_n (pc := 4) d_X11_cellAt_4 rfl ?_
    rcases zw_ifE hf with ⟨c2, hf⟩ | ⟨c2, hf⟩
    · refine zv_if_lt (pc := 5) (tg := 28) d_X11_cellAt_5 (by decide) (fun _ => ?_) (fun q => absurd c2 q)
      exact zx_weak (zw_leN (zw_leN (zw_leN (zw_leN zw_leZ)))) (j_X11_cellAt_28_ok X P I R J _ hf hk)
    · refine zv_if_lt (pc := 5) (tg := 28) d_X11_cellAt_5 (by decide) (fun q => absurd q c2) (fun _ => ?_)
      refine zv_iload_n (pc := 8) d_X11_cellAt_8 rfl ?_
      refine zv_aload_n (pc := 9) d_X11_cellAt_9 rfl ?_
      obtain ⟨g3, hf⟩ := zw_gcE hf (by decide)
      obtain ⟨g4, hf⟩ := zw_gcE hf (by decide)
      refine zx_getR (pc := 10) d_X11_cellAt_10 lk_CutStonesModel_64 (by decide) g3 g4 ?_
      refine zv_iload_n (pc := 13) d_X11_cellAt_13 rfl ?_
      obtain ⟨i5, hf⟩ := zw_inE hf
      refine zx_iald (pc := 14) d_X11_cellAt_14 g4 i5 ?_
      rcases zw_ifE hf with ⟨c6, hf⟩ | ⟨c6, hf⟩
      · refine zv_icmp_ge (pc := 15) (tg := 28) d_X11_cellAt_15 (by decide) (fun _ => ?_) (fun q => absurd c6 q)
        exact zx_weak (zw_leN (zw_leN (zw_leN (zw_leN zw_leZ)))) (j_X11_cellAt_28_ok X P I R J _ hf hk)
      · refine zv_icmp_ge (pc := 15) (tg := 28) d_X11_cellAt_15 (by decide) (fun q => absurd q c6) (fun _ => ?_)
        refine zv_iload_n (pc := 18) d_X11_cellAt_18 rfl ?_
        refine zv_aload_n (pc := 19) d_X11_cellAt_19 rfl ?_
        obtain ⟨g7, hf⟩ := zw_gcE hf (by decide)
        refine zx_getR (pc := 20) d_X11_cellAt_20 lk_CutStonesModel_67 (by decide) g3 g7 ?_
        refine zv_iload_n (pc := 23) d_X11_cellAt_23 rfl ?_
        obtain ⟨i8, hf⟩ := zw_inE hf
        refine zx_iald (pc := 24) d_X11_cellAt_24 g7 i8 ?_
        rcases zw_ifE hf with ⟨c9, hf⟩ | ⟨c9, hf⟩
        · refine zv_icmp_lt (pc := 25) (tg := 32) d_X11_cellAt_25 (by decide) (fun _ => ?_) (fun q => absurd c9 q)
          refine zv_aload_n (pc := 32) d_X11_cellAt_32 rfl ?_
          obtain ⟨g10, hf⟩ := zw_gcE hf (by decide)
          refine zx_getR (pc := 33) d_X11_cellAt_33 lk_CutStonesModel_70 (by decide) g3 g10 ?_
          refine zv_sipush (pc := 36) d_X11_cellAt_36 zc_s_144 ?_
          refine zv_iload_n (pc := 39) d_X11_cellAt_39 rfl ?_
          refine zv_imul (pc := 40) d_X11_cellAt_40 ?_
          refine zv_bipush (pc := 41) d_X11_cellAt_41 zc_b_12 ?_
          refine zv_iload_n (pc := 43) d_X11_cellAt_43 rfl ?_
          refine zv_imul (pc := 44) d_X11_cellAt_44 ?_
          refine zv_iadd (pc := 45) d_X11_cellAt_45 ?_
          refine zv_iload_n (pc := 46) d_X11_cellAt_46 rfl ?_
          refine zv_iadd (pc := 47) d_X11_cellAt_47 ?_
          obtain ⟨i11, hf⟩ := zw_inE hf
          refine zx_iald (pc := 48) d_X11_cellAt_48 g10 i11 ?_
          cases hf
          exact zx_iret (pc := 49) d_X11_cellAt_49 rfl hk
        · refine zv_icmp_lt (pc := 25) (tg := 32) d_X11_cellAt_25 (by decide) (fun q => absurd q c9) (fun _ => ?_)
          exact zx_weak (zw_leN (zw_leN (zw_leN (zw_leN zw_leZ)))) (j_X11_cellAt_28_ok X P I R J _ hf hk)
abbrev M_X11_cellOf : zw_M := (⟨"CutStonesModel", "cellOf", "(I)I"⟩, prog_13_method_13_code, 1, (Option.some Jvm.ClassFile.FieldType.int))
theorem d_X11_cellOf_0 : decode M_X11_cellOf.2.1 0 = .ok (.iload_n 0, 1) := by decide +kernel
theorem d_X11_cellOf_1 : decode M_X11_cellOf.2.1 1 = .ok (.bipush 46, 2) := by decide +kernel
theorem d_X11_cellOf_3 : decode M_X11_cellOf.2.1 3 = .ok (.if_icmp .ne 7, 3) := by decide +kernel
theorem d_X11_cellOf_6 : decode M_X11_cellOf.2.1 6 = .ok (.iconst 0, 1) := by decide +kernel
theorem d_X11_cellOf_7 : decode M_X11_cellOf.2.1 7 = .ok (.goto 44, 3) := by decide +kernel
theorem d_X11_cellOf_10 : decode M_X11_cellOf.2.1 10 = .ok (.iload_n 0, 1) := by decide +kernel
theorem d_X11_cellOf_11 : decode M_X11_cellOf.2.1 11 = .ok (.bipush 49, 2) := by decide +kernel
theorem d_X11_cellOf_13 : decode M_X11_cellOf.2.1 13 = .ok (.if_icmp .lt 16, 3) := by decide +kernel
theorem d_X11_cellOf_16 : decode M_X11_cellOf.2.1 16 = .ok (.iload_n 0, 1) := by decide +kernel
theorem d_X11_cellOf_17 : decode M_X11_cellOf.2.1 17 = .ok (.bipush 52, 2) := by decide +kernel
theorem d_X11_cellOf_19 : decode M_X11_cellOf.2.1 19 = .ok (.if_icmp .gt 10, 3) := by decide +kernel
theorem d_X11_cellOf_22 : decode M_X11_cellOf.2.1 22 = .ok (.iload_n 0, 1) := by decide +kernel
theorem d_X11_cellOf_23 : decode M_X11_cellOf.2.1 23 = .ok (.bipush 48, 2) := by decide +kernel
theorem d_X11_cellOf_25 : decode M_X11_cellOf.2.1 25 = .ok (.isub, 1) := by decide +kernel
theorem d_X11_cellOf_26 : decode M_X11_cellOf.2.1 26 = .ok (.goto 25, 3) := by decide +kernel
theorem d_X11_cellOf_29 : decode M_X11_cellOf.2.1 29 = .ok (.iload_n 0, 1) := by decide +kernel
theorem d_X11_cellOf_30 : decode M_X11_cellOf.2.1 30 = .ok (.bipush 35, 2) := by decide +kernel
theorem d_X11_cellOf_32 : decode M_X11_cellOf.2.1 32 = .ok (.if_icmp .ne 7, 3) := by decide +kernel
theorem d_X11_cellOf_35 : decode M_X11_cellOf.2.1 35 = .ok (.iconst 5, 1) := by decide +kernel
theorem d_X11_cellOf_36 : decode M_X11_cellOf.2.1 36 = .ok (.goto 15, 3) := by decide +kernel
theorem d_X11_cellOf_39 : decode M_X11_cellOf.2.1 39 = .ok (.iload_n 0, 1) := by decide +kernel
theorem d_X11_cellOf_40 : decode M_X11_cellOf.2.1 40 = .ok (.bipush 120, 2) := by decide +kernel
theorem d_X11_cellOf_42 : decode M_X11_cellOf.2.1 42 = .ok (.if_icmp .ne 8, 3) := by decide +kernel
theorem d_X11_cellOf_45 : decode M_X11_cellOf.2.1 45 = .ok (.bipush 6, 2) := by decide +kernel
theorem d_X11_cellOf_47 : decode M_X11_cellOf.2.1 47 = .ok (.goto 4, 3) := by decide +kernel
theorem d_X11_cellOf_50 : decode M_X11_cellOf.2.1 50 = .ok (.iconst (-1), 1) := by decide +kernel
theorem d_X11_cellOf_51 : decode M_X11_cellOf.2.1 51 = .ok (.ireturn, 1) := by decide +kernel
theorem ce_X11_cellOf : zw_CeS M_X11_cellOf 1 := ⟨⟨⟨by decide +kernel, by decide +kernel, by decide +kernel⟩, (zw_mG (List.mem_of_getElem? (i := 1434) (by decide +kernel)) rfl), (zw_mG (List.mem_of_getElem? (i := 108) (by decide +kernel)) rfl), by decide, by decide +kernel⟩, (zw_mG (List.mem_of_getElem? (i := 1433) (by decide +kernel)) rfl)⟩
def j_X11_cellOf_29 (v0 : Int32)  : Option (Int32) :=
  if ¬ v0 = 35 then if ¬ v0 = 120 then some (-1) else some 6 else some 5
theorem j_X11_cellOf_29_ok (X : zw_X) (P : Option Value → aS → Prop) (v0 : Int32) (I : zI) (R : zR) (J : zJ) (o : Int32) (hf : j_X11_cellOf_29 v0 = some o) (hk : P (some (.int o)) (I, R, J)) : zy_V X M_X11_cellOf 0 P 29 [.int v0] [] (I, R, J) := by
  unfold j_X11_cellOf_29 at hf
  refine zv_iload_n (pc := 29) d_X11_cellOf_29 rfl ?_
  refine zv_bipush (pc := 30) d_X11_cellOf_30 zc_b_35 ?_
  rcases zw_ifE hf with ⟨c3, hf⟩ | ⟨c3, hf⟩
  · refine zv_icmp_ne (pc := 32) (tg := 39) d_X11_cellOf_32 (by decide) (fun _ => ?_) (fun q => absurd q c3)
    refine zv_iload_n (pc := 39) d_X11_cellOf_39 rfl ?_
    refine zv_bipush (pc := 40) d_X11_cellOf_40 zc_b_120 ?_
    rcases zw_ifE hf with ⟨c4, hf⟩ | ⟨c4, hf⟩
    · refine zv_icmp_ne (pc := 42) (tg := 50) d_X11_cellOf_42 (by decide) (fun _ => ?_) (fun q => absurd q c4)
      refine zv_iconst (pc := 50) d_X11_cellOf_50 zc_i_m1 ?_
      cases hf
      exact zx_iret (pc := 51) d_X11_cellOf_51 rfl hk
    · refine zv_icmp_ne (pc := 42) (tg := 50) d_X11_cellOf_42 (by decide) (fun q => absurd q c4) (fun _ => ?_)
      refine zv_bipush (pc := 45) d_X11_cellOf_45 zc_b_6 ?_
      refine zv_goto (pc := 47) (tg := 51) d_X11_cellOf_47 (by decide) ?_
      cases hf
      exact zx_iret (pc := 51) d_X11_cellOf_51 rfl hk
  · refine zv_icmp_ne (pc := 32) (tg := 39) d_X11_cellOf_32 (by decide) (fun q => absurd q c3) (fun _ => ?_)
    refine zv_iconst (pc := 35) d_X11_cellOf_35 zc_i_5 ?_
    refine zv_goto (pc := 36) (tg := 51) d_X11_cellOf_36 (by decide) ?_
    cases hf
    exact zx_iret (pc := 51) d_X11_cellOf_51 rfl hk
def f_X11_cellOf (v0 : Int32)  : Option (Int32) :=
  if ¬ v0 = 46 then if v0 < 49 then j_X11_cellOf_29 v0 else if 52 < v0 then j_X11_cellOf_29 v0 else some (v0 - 48) else some 0
theorem c_X11_cellOf (X : zw_X) (v0 : Int32) (I : zI) (R : zR) (J : zJ) {P : Option Value → aS → Prop} (o : Int32) (hf : f_X11_cellOf v0  = some o) (hk : P (some (.int o)) (I, R, J)) : zw_C X M_X11_cellOf 0 0 0 199 [.int v0] (I, R, J) P := by
  show zy_V X M_X11_cellOf 0 P 0 [.int v0] [] (I, R, J)
  unfold f_X11_cellOf at hf
  refine zv_iload_n (pc := 0) d_X11_cellOf_0 rfl ?_
  refine zv_bipush (pc := 1) d_X11_cellOf_1 zc_b_46 ?_
  rcases zw_ifE hf with ⟨c1, hf⟩ | ⟨c1, hf⟩
  · refine zv_icmp_ne (pc := 3) (tg := 10) d_X11_cellOf_3 (by decide) (fun _ => ?_) (fun q => absurd q c1)
    refine zv_iload_n (pc := 10) d_X11_cellOf_10 rfl ?_
    refine zv_bipush (pc := 11) d_X11_cellOf_11 zc_b_49 ?_
    rcases zw_ifE hf with ⟨c2, hf⟩ | ⟨c2, hf⟩
    · refine zv_icmp_lt (pc := 13) (tg := 29) d_X11_cellOf_13 (by decide) (fun _ => ?_) (fun q => absurd c2 q)
      exact zx_weak (zw_leS zw_leZ) (j_X11_cellOf_29_ok X P v0 I R J _ hf hk)
    · refine zv_icmp_lt (pc := 13) (tg := 29) d_X11_cellOf_13 (by decide) (fun q => absurd q c2) (fun _ => ?_)
      refine zv_iload_n (pc := 16) d_X11_cellOf_16 rfl ?_
      refine zv_bipush (pc := 17) d_X11_cellOf_17 zc_b_52 ?_
      rcases zw_ifE hf with ⟨c5, hf⟩ | ⟨c5, hf⟩
      · refine zv_icmp_gt (pc := 19) (tg := 29) d_X11_cellOf_19 (by decide) (fun _ => ?_) (fun q => absurd c5 q)
        exact zx_weak (zw_leS zw_leZ) (j_X11_cellOf_29_ok X P v0 I R J _ hf hk)
      · refine zv_icmp_gt (pc := 19) (tg := 29) d_X11_cellOf_19 (by decide) (fun q => absurd q c5) (fun _ => ?_)
        refine zv_iload_n (pc := 22) d_X11_cellOf_22 rfl ?_
        refine zv_bipush (pc := 23) d_X11_cellOf_23 zc_b_48 ?_
        refine zv_isub (pc := 25) d_X11_cellOf_25 ?_
        refine zv_goto (pc := 26) (tg := 51) d_X11_cellOf_26 (by decide) ?_
        cases hf
        exact zx_iret (pc := 51) d_X11_cellOf_51 rfl hk
  · refine zv_icmp_ne (pc := 3) (tg := 10) d_X11_cellOf_3 (by decide) (fun q => absurd q c1) (fun _ => ?_)
    refine zv_iconst (pc := 6) d_X11_cellOf_6 zc_i_0 ?_
    refine zv_goto (pc := 7) (tg := 51) d_X11_cellOf_7 (by decide) ?_
    cases hf
    exact zx_iret (pc := 51) d_X11_cellOf_51 rfl hk
abbrev M_X11_darkens : zw_M := (⟨"CutStonesModel", "darkens", "()V"⟩, prog_13_method_37_code, 2, (Option.none : Option Jvm.ClassFile.FieldType))
theorem d_X11_darkens_0 : decode M_X11_darkens.2.1 0 = .ok (.iconst 0, 1) := by decide +kernel
theorem d_X11_darkens_1 : decode M_X11_darkens.2.1 1 = .ok (.istore_n 1, 1) := by decide +kernel
theorem d_X11_darkens_2 : decode M_X11_darkens.2.1 2 = .ok (.iload_n 1, 1) := by decide +kernel
theorem d_X11_darkens_3 : decode M_X11_darkens.2.1 3 = .ok (.iconst 4, 1) := by decide +kernel
theorem d_X11_darkens_4 : decode M_X11_darkens.2.1 4 = .ok (.if_icmp .ge 16, 3) := by decide +kernel
theorem d_X11_darkens_7 : decode M_X11_darkens.2.1 7 = .ok (.aload_n 0, 1) := by decide +kernel
theorem d_X11_darkens_8 : decode M_X11_darkens.2.1 8 = .ok (.getfield 125, 3) := by decide +kernel
theorem d_X11_darkens_11 : decode M_X11_darkens.2.1 11 = .ok (.iload_n 1, 1) := by decide +kernel
theorem d_X11_darkens_12 : decode M_X11_darkens.2.1 12 = .ok (.iconst 0, 1) := by decide +kernel
theorem d_X11_darkens_13 : decode M_X11_darkens.2.1 13 = .ok (.iastore, 1) := by decide +kernel
theorem d_X11_darkens_14 : decode M_X11_darkens.2.1 14 = .ok (.iinc 1 1, 3) := by decide +kernel
theorem d_X11_darkens_17 : decode M_X11_darkens.2.1 17 = .ok (.goto (-15), 3) := by decide +kernel
theorem d_X11_darkens_20 : decode M_X11_darkens.2.1 20 = .ok (.iconst 0, 1) := by decide +kernel
theorem d_X11_darkens_21 : decode M_X11_darkens.2.1 21 = .ok (.istore_n 1, 1) := by decide +kernel
theorem d_X11_darkens_22 : decode M_X11_darkens.2.1 22 = .ok (.iload_n 1, 1) := by decide +kernel
theorem d_X11_darkens_23 : decode M_X11_darkens.2.1 23 = .ok (.bipush 12, 2) := by decide +kernel
theorem d_X11_darkens_25 : decode M_X11_darkens.2.1 25 = .ok (.if_icmp .ge 16, 3) := by decide +kernel
theorem d_X11_darkens_28 : decode M_X11_darkens.2.1 28 = .ok (.aload_n 0, 1) := by decide +kernel
theorem d_X11_darkens_29 : decode M_X11_darkens.2.1 29 = .ok (.getfield 128, 3) := by decide +kernel
theorem d_X11_darkens_32 : decode M_X11_darkens.2.1 32 = .ok (.iload_n 1, 1) := by decide +kernel
theorem d_X11_darkens_33 : decode M_X11_darkens.2.1 33 = .ok (.iconst 0, 1) := by decide +kernel
theorem d_X11_darkens_34 : decode M_X11_darkens.2.1 34 = .ok (.iastore, 1) := by decide +kernel
theorem d_X11_darkens_35 : decode M_X11_darkens.2.1 35 = .ok (.iinc 1 1, 3) := by decide +kernel
theorem d_X11_darkens_38 : decode M_X11_darkens.2.1 38 = .ok (.goto (-16), 3) := by decide +kernel
theorem d_X11_darkens_41 : decode M_X11_darkens.2.1 41 = .ok (.aload_n 0, 1) := by decide +kernel
theorem d_X11_darkens_42 : decode M_X11_darkens.2.1 42 = .ok (.iconst 0, 1) := by decide +kernel
theorem d_X11_darkens_43 : decode M_X11_darkens.2.1 43 = .ok (.putfield 328, 3) := by decide +kernel
theorem d_X11_darkens_46 : decode M_X11_darkens.2.1 46 = .ok (.aload_n 0, 1) := by decide +kernel
theorem d_X11_darkens_47 : decode M_X11_darkens.2.1 47 = .ok (.iconst 0, 1) := by decide +kernel
theorem d_X11_darkens_48 : decode M_X11_darkens.2.1 48 = .ok (.putfield 331, 3) := by decide +kernel
theorem d_X11_darkens_51 : decode M_X11_darkens.2.1 51 = .ok (.aload_n 0, 1) := by decide +kernel
theorem d_X11_darkens_52 : decode M_X11_darkens.2.1 52 = .ok (.iconst 0, 1) := by decide +kernel
theorem d_X11_darkens_53 : decode M_X11_darkens.2.1 53 = .ok (.putfield 334, 3) := by decide +kernel
theorem d_X11_darkens_56 : decode M_X11_darkens.2.1 56 = .ok (.aload_n 0, 1) := by decide +kernel
theorem d_X11_darkens_57 : decode M_X11_darkens.2.1 57 = .ok (.iconst 0, 1) := by decide +kernel
theorem d_X11_darkens_58 : decode M_X11_darkens.2.1 58 = .ok (.putfield 337, 3) := by decide +kernel
theorem d_X11_darkens_61 : decode M_X11_darkens.2.1 61 = .ok (.aload_n 0, 1) := by decide +kernel
theorem d_X11_darkens_62 : decode M_X11_darkens.2.1 62 = .ok (.iconst 0, 1) := by decide +kernel
theorem d_X11_darkens_63 : decode M_X11_darkens.2.1 63 = .ok (.putfield 340, 3) := by decide +kernel
theorem d_X11_darkens_66 : decode M_X11_darkens.2.1 66 = .ok (.aload_n 0, 1) := by decide +kernel
theorem d_X11_darkens_67 : decode M_X11_darkens.2.1 67 = .ok (.iconst 0, 1) := by decide +kernel
theorem d_X11_darkens_68 : decode M_X11_darkens.2.1 68 = .ok (.putfield 343, 3) := by decide +kernel
theorem d_X11_darkens_71 : decode M_X11_darkens.2.1 71 = .ok (.return_, 1) := by decide +kernel
theorem ce_X11_darkens : zw_CeV M_X11_darkens 0 := ⟨⟨⟨by decide +kernel, by decide +kernel, by decide +kernel⟩, (zw_mG (List.mem_of_getElem? (i := 1563) (by decide +kernel)) rfl), (zw_mG (List.mem_of_getElem? (i := 108) (by decide +kernel)) rfl), by decide, by decide +kernel⟩, (zw_mG (List.mem_of_getElem? (i := 1562) (by decide +kernel)) rfl), (zw_mG (List.mem_of_getElem? (i := 76) (by decide +kernel)) rfl)⟩
def s_X11_darkens_2 (v0 : Nat) (R : zR) (s : Int32 × zI) : Option ((Int32 × zI) ⊕ (zI)) :=
  if 4 ≤ s.1 then some (.inr s.2) else zw_g (zw_gc v0 11) (zw_g (zw_gc (R v0 52) 13) (zw_g (zw_in s.1 (zw_SH (R v0 52)).2) (zw_let (zw_u s.2 (R v0 52) (Int32.toNatClampNeg s.1) 0 : zI) fun I5 => (zw_let (s.1 + 1 : Int32) fun x6 => (some (.inl (x6, I5)))))))
theorem s_X11_darkens_2_ok (X : zw_X) (P : Option Value → aS → Prop) (v0 : Nat) (R : zR) (J : zJ) (s : Int32 × zI) (o : (Int32 × zI) ⊕ (zI)) (hf : s_X11_darkens_2 v0 R s = some o) (hk : (zw_se (fun t => zy_V X M_X11_darkens 0 P 2 [.ref v0, .int t.1] [] (t.2, R, J)) (fun r => zy_V X M_X11_darkens 0 P 20 [.ref v0, .null] [] (r, R, J)) o)) : zy_V X M_X11_darkens 0 P 2 [.ref v0, .int s.1] [] (s.2, R, J) := by
  unfold s_X11_darkens_2 at hf
  refine zv_iload_n (pc := 2) d_X11_darkens_2 rfl ?_
  refine zv_iconst (pc := 3) d_X11_darkens_3 zc_i_4 ?_
  rcases zw_ifE hf with ⟨c1, hf⟩ | ⟨c1, hf⟩
  · refine zv_icmp_ge (pc := 4) (tg := 20) d_X11_darkens_4 (by decide) (fun _ => ?_) (fun q => absurd c1 q)
    cases hf
    exact zx_weak (zw_leS (zw_leN zw_leZ)) hk
  · refine zv_icmp_ge (pc := 4) (tg := 20) d_X11_darkens_4 (by decide) (fun q => absurd q c1) (fun _ => ?_)
    refine zv_aload_n (pc := 7) d_X11_darkens_7 rfl ?_
    obtain ⟨g2, hf⟩ := zw_gcE hf (by decide)
    obtain ⟨g3, hf⟩ := zw_gcE hf (by decide)
    refine zx_getR (pc := 8) d_X11_darkens_8 lk_CutStonesModel_125 (by decide) g2 g3 ?_
    refine zv_iload_n (pc := 11) d_X11_darkens_11 rfl ?_
    refine zv_iconst (pc := 12) d_X11_darkens_12 zc_i_0 ?_
    obtain ⟨i4, hf⟩ := zw_inE hf
    obtain ⟨I5, eI5, hf⟩ := zw_letE hf
    refine zx_iast (pc := 13) (I2 := I5) d_X11_darkens_13 g3 i4 eI5 ?_
    obtain ⟨x6, ex6, hf⟩ := zw_letE hf
    refine zx_iinc (pc := 14) (x2 := x6) (L2 := [.ref v0, .int x6]) d_X11_darkens_14 (by decide) rfl zc_i_1 ex6 rfl ?_
    refine zv_goto (pc := 17) (tg := 2) d_X11_darkens_17 (by decide) ?_
    cases hf
    exact zx_weak (zw_leS (zw_leS zw_leZ)) hk
theorem s_X11_darkens_2_lp (X : zw_X) (P : Option Value → aS → Prop) (v0 : Nat) (R : zR) (J : zJ) (n : Nat) (s : Int32 × zI) (r : zI) (h : zw_it (s_X11_darkens_2 v0 R) n s = some r) (hq : zy_V X M_X11_darkens 0 P 20 [.ref v0, .null] [] (r, R, J)) : zy_V X M_X11_darkens 0 P 2 [.ref v0, .int s.1] [] (s.2, R, J) :=
  zw_itE (A := (fun t : Int32 × zI => zy_V X M_X11_darkens 0 P 2 [.ref v0, .int t.1] [] (t.2, R, J))) (Q := (fun r : zI => zy_V X M_X11_darkens 0 P 20 [.ref v0, .null] [] (r, R, J))) (fun s o h1 h2 => s_X11_darkens_2_ok X P v0 R J s o h1 h2) n s r h hq
def s_X11_darkens_22 (v0 : Nat) (R : zR) (s : Int32 × zI) : Option ((Int32 × zI) ⊕ (zI)) :=
  if 12 ≤ s.1 then some (.inr s.2) else zw_g (zw_gc v0 11) (zw_g (zw_gc (R v0 53) 13) (zw_g (zw_in s.1 (zw_SH (R v0 53)).2) (zw_let (zw_u s.2 (R v0 53) (Int32.toNatClampNeg s.1) 0 : zI) fun I12 => (zw_let (s.1 + 1 : Int32) fun x13 => (some (.inl (x13, I12)))))))
theorem s_X11_darkens_22_ok (X : zw_X) (P : Option Value → aS → Prop) (v0 : Nat) (R : zR) (J : zJ) (s : Int32 × zI) (o : (Int32 × zI) ⊕ (zI)) (hf : s_X11_darkens_22 v0 R s = some o) (hk : (zw_se (fun t => zy_V X M_X11_darkens 0 P 22 [.ref v0, .int t.1] [] (t.2, R, J)) (fun r => zy_V X M_X11_darkens 0 P 41 [.ref v0, .null] [] (r, R, J)) o)) : zy_V X M_X11_darkens 0 P 22 [.ref v0, .int s.1] [] (s.2, R, J) := by
  unfold s_X11_darkens_22 at hf
  refine zv_iload_n (pc := 22) d_X11_darkens_22 rfl ?_
  refine zv_bipush (pc := 23) d_X11_darkens_23 zc_b_12 ?_
  rcases zw_ifE hf with ⟨c8, hf⟩ | ⟨c8, hf⟩
  · refine zv_icmp_ge (pc := 25) (tg := 41) d_X11_darkens_25 (by decide) (fun _ => ?_) (fun q => absurd c8 q)
    cases hf
    exact zx_weak (zw_leS (zw_leN zw_leZ)) hk
  · refine zv_icmp_ge (pc := 25) (tg := 41) d_X11_darkens_25 (by decide) (fun q => absurd q c8) (fun _ => ?_)
    refine zv_aload_n (pc := 28) d_X11_darkens_28 rfl ?_
    obtain ⟨g9, hf⟩ := zw_gcE hf (by decide)
    obtain ⟨g10, hf⟩ := zw_gcE hf (by decide)
    refine zx_getR (pc := 29) d_X11_darkens_29 lk_CutStonesModel_128 (by decide) g9 g10 ?_
    refine zv_iload_n (pc := 32) d_X11_darkens_32 rfl ?_
    refine zv_iconst (pc := 33) d_X11_darkens_33 zc_i_0 ?_
    obtain ⟨i11, hf⟩ := zw_inE hf
    obtain ⟨I12, eI12, hf⟩ := zw_letE hf
    refine zx_iast (pc := 34) (I2 := I12) d_X11_darkens_34 g10 i11 eI12 ?_
    obtain ⟨x13, ex13, hf⟩ := zw_letE hf
    refine zx_iinc (pc := 35) (x2 := x13) (L2 := [.ref v0, .int x13]) d_X11_darkens_35 (by decide) rfl zc_i_1 ex13 rfl ?_
    refine zv_goto (pc := 38) (tg := 22) d_X11_darkens_38 (by decide) ?_
    cases hf
    exact zx_weak (zw_leS (zw_leS zw_leZ)) hk
theorem s_X11_darkens_22_lp (X : zw_X) (P : Option Value → aS → Prop) (v0 : Nat) (R : zR) (J : zJ) (n : Nat) (s : Int32 × zI) (r : zI) (h : zw_it (s_X11_darkens_22 v0 R) n s = some r) (hq : zy_V X M_X11_darkens 0 P 41 [.ref v0, .null] [] (r, R, J)) : zy_V X M_X11_darkens 0 P 22 [.ref v0, .int s.1] [] (s.2, R, J) :=
  zw_itE (A := (fun t : Int32 × zI => zy_V X M_X11_darkens 0 P 22 [.ref v0, .int t.1] [] (t.2, R, J))) (Q := (fun r : zI => zy_V X M_X11_darkens 0 P 41 [.ref v0, .null] [] (r, R, J))) (fun s o h1 h2 => s_X11_darkens_22_ok X P v0 R J s o h1 h2) n s r h hq
def f_X11_darkens (v0 : Nat) (I : zI) (R : zR) : Option (zI) :=
  (zw_it (s_X11_darkens_2 v0 R) 1000000 (0, I)).bind fun q7 => ((zw_it (s_X11_darkens_22 v0 R) 1000000 (0, q7)).bind fun q14 => (zw_g (zw_gc v0 11) (zw_let (zw_u q14 v0 54 0 : zI) fun I16 => (zw_let (zw_u I16 v0 55 0 : zI) fun I17 => (zw_let (zw_u I17 v0 56 0 : zI) fun I18 => (zw_let (zw_u I18 v0 57 0 : zI) fun I19 => (zw_let (zw_u I19 v0 58 0 : zI) fun I20 => (zw_let (zw_u I20 v0 59 0 : zI) fun I21 => (some I21)))))))))
theorem c_X11_darkens (X : zw_X) (v0 : Nat) (I : zI) (R : zR) (J : zJ) {P : Option Value → aS → Prop} (o : zI) (hf : f_X11_darkens v0 I R = some o) (hk : P none (o, R, J)) : zw_C X M_X11_darkens 0 0 0 199 [.ref v0] (I, R, J) P := by
  show zy_V X M_X11_darkens 0 P 0 [.ref v0, .null] [] (I, R, J)
  unfold f_X11_darkens at hf
  refine zv_iconst (pc := 0) d_X11_darkens_0 zc_i_0 ?_
  refine zx_istore_n (pc := 1) (x2 := 0) (L2 := [.ref v0, .int 0]) d_X11_darkens_1 (by decide) rfl rfl ?_
  obtain ⟨q7, hq7, hf⟩ := zw_bdE hf
  refine zx_weak (L' := [.ref v0, .int 0]) (zw_leS (zw_leS zw_leZ)) (s_X11_darkens_2_lp X P v0 R J _ _ _ hq7 ?_)
  show zy_V X M_X11_darkens 0 P 20 [.ref v0, .null] [] (q7, R, J)
  refine zv_iconst (pc := 20) d_X11_darkens_20 zc_i_0 ?_
  refine zx_istore_n (pc := 21) (x2 := 0) (L2 := [.ref v0, .int 0]) d_X11_darkens_21 (by decide) rfl rfl ?_
  obtain ⟨q14, hq14, hf⟩ := zw_bdE hf
  refine zx_weak (L' := [.ref v0, .int 0]) (zw_leS (zw_leS zw_leZ)) (s_X11_darkens_22_lp X P v0 R J _ _ _ hq14 ?_)
  show zy_V X M_X11_darkens 0 P 41 [.ref v0, .null] [] (q14, R, J)
  refine zv_aload_n (pc := 41) d_X11_darkens_41 rfl ?_
  refine zv_iconst (pc := 42) d_X11_darkens_42 zc_i_0 ?_
  obtain ⟨g15, hf⟩ := zw_gcE hf (by decide)
  obtain ⟨I16, eI16, hf⟩ := zw_letE hf
  refine zx_putI (pc := 43) (I2 := I16) d_X11_darkens_43 lk_CutStonesModel_328 rfl g15 eI16 ?_
  refine zv_aload_n (pc := 46) d_X11_darkens_46 rfl ?_
  refine zv_iconst (pc := 47) d_X11_darkens_47 zc_i_0 ?_
  obtain ⟨I17, eI17, hf⟩ := zw_letE hf
  refine zx_putI (pc := 48) (I2 := I17) d_X11_darkens_48 lk_CutStonesModel_331 rfl g15 eI17 ?_
  refine zv_aload_n (pc := 51) d_X11_darkens_51 rfl ?_
  refine zv_iconst (pc := 52) d_X11_darkens_52 zc_i_0 ?_
  obtain ⟨I18, eI18, hf⟩ := zw_letE hf
  refine zx_putI (pc := 53) (I2 := I18) d_X11_darkens_53 lk_CutStonesModel_334 rfl g15 eI18 ?_
  refine zv_aload_n (pc := 56) d_X11_darkens_56 rfl ?_
  refine zv_iconst (pc := 57) d_X11_darkens_57 zc_i_0 ?_
  obtain ⟨I19, eI19, hf⟩ := zw_letE hf
  refine zx_putI (pc := 58) (I2 := I19) d_X11_darkens_58 lk_CutStonesModel_337 rfl g15 eI19 ?_
  refine zv_aload_n (pc := 61) d_X11_darkens_61 rfl ?_
  refine zv_iconst (pc := 62) d_X11_darkens_62 zc_i_0 ?_
  obtain ⟨I20, eI20, hf⟩ := zw_letE hf
  refine zx_putI (pc := 63) (I2 := I20) d_X11_darkens_63 lk_CutStonesModel_340 rfl g15 eI20 ?_
  refine zv_aload_n (pc := 66) d_X11_darkens_66 rfl ?_
  refine zv_iconst (pc := 67) d_X11_darkens_67 zc_i_0 ?_
  obtain ⟨I21, eI21, hf⟩ := zw_letE hf
  refine zx_putI (pc := 68) (I2 := I21) d_X11_darkens_68 lk_CutStonesModel_343 rfl g15 eI21 ?_
  cases hf
  exact zx_vret (pc := 71) d_X11_darkens_71 rfl hk
