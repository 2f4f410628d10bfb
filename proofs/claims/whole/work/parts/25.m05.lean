abbrev M_X9_hasFirst : zw_M := (⟨"CutStones$Tests", "hasFirst", "(I)Z"⟩, prog_11_method_4_code, 2, (Option.some Jvm.ClassFile.FieldType.boolean))
theorem d_X9_hasFirst_0 : decode M_X9_hasFirst.2.1 0 = .ok (.iload_n 1, 1) := by decide +kernel
theorem d_X9_hasFirst_1 : decode M_X9_hasFirst.2.1 1 = .ok (.ifCond .lt 15, 3) := by decide +kernel
theorem d_X9_hasFirst_4 : decode M_X9_hasFirst.2.1 4 = .ok (.iload_n 1, 1) := by decide +kernel
theorem d_X9_hasFirst_5 : decode M_X9_hasFirst.2.1 5 = .ok (.aload_n 0, 1) := by decide +kernel
theorem d_X9_hasFirst_6 : decode M_X9_hasFirst.2.1 6 = .ok (.getfield 9, 3) := by decide +kernel
theorem d_X9_hasFirst_9 : decode M_X9_hasFirst.2.1 9 = .ok (.if_icmp .gt 7, 3) := by decide +kernel
theorem d_X9_hasFirst_12 : decode M_X9_hasFirst.2.1 12 = .ok (.iconst 1, 1) := by decide +kernel
theorem d_X9_hasFirst_13 : decode M_X9_hasFirst.2.1 13 = .ok (.goto 4, 3) := by decide +kernel
theorem d_X9_hasFirst_16 : decode M_X9_hasFirst.2.1 16 = .ok (.iconst 0, 1) := by decide +kernel
theorem d_X9_hasFirst_17 : decode M_X9_hasFirst.2.1 17 = .ok (.ireturn, 1) := by decide +kernel
theorem ce_X9_hasFirst : zw_CeV M_X9_hasFirst 1 := ⟨⟨⟨by decide +kernel, by decide +kernel, by decide +kernel⟩, (zw_mG (List.mem_of_getElem? (i := 1105) (by decide +kernel)) rfl), (zw_mG (List.mem_of_getElem? (i := 106) (by decide +kernel)) rfl), by decide, by decide +kernel⟩, (zw_mG (List.mem_of_getElem? (i := 1103) (by decide +kernel)) rfl), (zw_mG (List.mem_of_getElem? (i := 1104) (by decide +kernel)) rfl)⟩
def f_X9_hasFirst (v0 : Nat) (v1 : Int32) (I : zI) : Option (Int32) :=
  if v1 < 0 then some 0 else zw_g (zw_gc v0 9) (if (I v0 0) < v1 then some 0 else some 1)
theorem c_X9_hasFirst (X : zw_X) (v0 : Nat) (v1 : Int32) (I : zI) (R : zR) (J : zJ) {P : Option Value → aS → Prop} (o : Int32) (hf : f_X9_hasFirst v0 v1 I = some o) (hk : P (some (.int o)) (I, R, J)) : zw_C X M_X9_hasFirst 0 0 0 199 [.ref v0, .int v1] (I, R, J) P := by
  show zy_V X M_X9_hasFirst 0 P 0 [.ref v0, .int v1] [] (I, R, J)
  unfold f_X9_hasFirst at hf
  refine zv_iload_n (pc := 0) d_X9_hasFirst_0 rfl ?_
  rcases zw_ifE hf with ⟨c1, hf⟩ | ⟨c1, hf⟩
  · refine zv_if_lt (pc := 1) (tg := 16) d_X9_hasFirst_1 (by decide) (fun _ => ?_) (fun q => absurd c1 q)
    refine zv_iconst (pc := 16) d_X9_hasFirst_16 zc_i_0 ?_
    cases hf
    exact zx_zret (pc := 17) d_X9_hasFirst_17 rfl (Or.inl rfl) hk
  · refine zv_if_lt (pc := 1) (tg := 16) d_X9_hasFirst_1 (by decide) (fun q => absurd q c1) (fun _ => ?_)
    refine zv_iload_n (pc := 4) d_X9_hasFirst_4 rfl ?_
    refine zv_aload_n (pc := 5) d_X9_hasFirst_5 rfl ?_
    obtain ⟨g2, hf⟩ := zw_gcE hf (by decide)
    refine zx_getI (pc := 6) d_X9_hasFirst_6 lk_CutStones_Tests_9 (by decide) g2 ?_
    rcases zw_ifE hf with ⟨c3, hf⟩ | ⟨c3, hf⟩
    · refine zv_icmp_gt (pc := 9) (tg := 16) d_X9_hasFirst_9 (by decide) (fun _ => ?_) (fun q => absurd c3 q)
      refine zv_iconst (pc := 16) d_X9_hasFirst_16 zc_i_0 ?_
      cases hf
      exact zx_zret (pc := 17) d_X9_hasFirst_17 rfl (Or.inl rfl) hk
    · refine zv_icmp_gt (pc := 9) (tg := 16) d_X9_hasFirst_9 (by decide) (fun q => absurd q c3) (fun _ => ?_)
      refine zv_iconst (pc := 12) d_X9_hasFirst_12 zc_i_1 ?_
      refine zv_goto (pc := 13) (tg := 17) d_X9_hasFirst_13 (by decide) ?_
      cases hf
      exact zx_zret (pc := 17) d_X9_hasFirst_17 rfl (Or.inr rfl) hk
abbrev M_X9_stands : zw_M := (⟨"CutStones$Tests", "stands", "(II)Z"⟩, prog_11_method_5_code, 4, (Option.some Jvm.ClassFile.FieldType.boolean))
theorem d_X9_stands_0 : decode M_X9_stands.2.1 0 = .ok (.aload_n 0, 1) := by decide +kernel
theorem d_X9_stands_1 : decode M_X9_stands.2.1 1 = .ok (.getfield 25, 3) := by decide +kernel
theorem d_X9_stands_4 : decode M_X9_stands.2.1 4 = .ok (.iload_n 1, 1) := by decide +kernel
theorem d_X9_stands_5 : decode M_X9_stands.2.1 5 = .ok (.iaload, 1) := by decide +kernel
theorem d_X9_stands_6 : decode M_X9_stands.2.1 6 = .ok (.iconst (-1), 1) := by decide +kernel
theorem d_X9_stands_7 : decode M_X9_stands.2.1 7 = .ok (.if_icmp .eq 5, 3) := by decide +kernel
theorem d_X9_stands_10 : decode M_X9_stands.2.1 10 = .ok (.iconst 0, 1) := by decide +kernel
theorem d_X9_stands_11 : decode M_X9_stands.2.1 11 = .ok (.ireturn, 1) := by decide +kernel
theorem d_X9_stands_12 : decode M_X9_stands.2.1 12 = .ok (.iload_n 1, 1) := by decide +kernel
theorem d_X9_stands_13 : decode M_X9_stands.2.1 13 = .ok (.iconst 1, 1) := by decide +kernel
theorem d_X9_stands_14 : decode M_X9_stands.2.1 14 = .ok (.iadd, 1) := by decide +kernel
theorem d_X9_stands_15 : decode M_X9_stands.2.1 15 = .ok (.istore_n 3, 1) := by decide +kernel
theorem d_X9_stands_16 : decode M_X9_stands.2.1 16 = .ok (.iload_n 3, 1) := by decide +kernel
theorem d_X9_stands_17 : decode M_X9_stands.2.1 17 = .ok (.iload_n 2, 1) := by decide +kernel
theorem d_X9_stands_18 : decode M_X9_stands.2.1 18 = .ok (.if_icmp .ge 29, 3) := by decide +kernel
theorem d_X9_stands_21 : decode M_X9_stands.2.1 21 = .ok (.iload_n 3, 1) := by decide +kernel
theorem d_X9_stands_22 : decode M_X9_stands.2.1 22 = .ok (.aload_n 0, 1) := by decide +kernel
theorem d_X9_stands_23 : decode M_X9_stands.2.1 23 = .ok (.getfield 9, 3) := by decide +kernel
theorem d_X9_stands_26 : decode M_X9_stands.2.1 26 = .ok (.if_icmp .ge 21, 3) := by decide +kernel
theorem d_X9_stands_29 : decode M_X9_stands.2.1 29 = .ok (.aload_n 0, 1) := by decide +kernel
theorem d_X9_stands_30 : decode M_X9_stands.2.1 30 = .ok (.getfield 25, 3) := by decide +kernel
theorem d_X9_stands_33 : decode M_X9_stands.2.1 33 = .ok (.iload_n 3, 1) := by decide +kernel
theorem d_X9_stands_34 : decode M_X9_stands.2.1 34 = .ok (.iaload, 1) := by decide +kernel
theorem d_X9_stands_35 : decode M_X9_stands.2.1 35 = .ok (.iload_n 1, 1) := by decide +kernel
theorem d_X9_stands_36 : decode M_X9_stands.2.1 36 = .ok (.if_icmp .ne 5, 3) := by decide +kernel
theorem d_X9_stands_39 : decode M_X9_stands.2.1 39 = .ok (.iconst 0, 1) := by decide +kernel
theorem d_X9_stands_40 : decode M_X9_stands.2.1 40 = .ok (.ireturn, 1) := by decide +kernel
theorem d_X9_stands_41 : decode M_X9_stands.2.1 41 = .ok (.iinc 3 1, 3) := by decide +kernel
theorem d_X9_stands_44 : decode M_X9_stands.2.1 44 = .ok (.goto (-28), 3) := by decide +kernel
theorem d_X9_stands_47 : decode M_X9_stands.2.1 47 = .ok (.iconst 1, 1) := by decide +kernel
theorem d_X9_stands_48 : decode M_X9_stands.2.1 48 = .ok (.ireturn, 1) := by decide +kernel
theorem ce_X9_stands : zw_CeV M_X9_stands 2 := ⟨⟨⟨by decide +kernel, by decide +kernel, by decide +kernel⟩, (zw_mG (List.mem_of_getElem? (i := 1113) (by decide +kernel)) rfl), (zw_mG (List.mem_of_getElem? (i := 106) (by decide +kernel)) rfl), by decide, by decide +kernel⟩, (zw_mG (List.mem_of_getElem? (i := 1111) (by decide +kernel)) rfl), (zw_mG (List.mem_of_getElem? (i := 1112) (by decide +kernel)) rfl)⟩
def s_X9_stands_16 (v0 : Nat) (v1 : Int32) (v2 : Int32) (I : zI) (R : zR) (s : Int32) : Option ((Int32) ⊕ ((Unit) ⊕ (Unit))) :=
  if v2 ≤ s then some (.inr (.inl ())) else zw_g (zw_gc v0 9) (if (I v0 0) ≤ s then some (.inr (.inl ())) else zw_g (zw_gc (R v0 4) 13) (zw_g (zw_in s (zw_SH (R v0 4)).2) (if ¬ (I (R v0 4) (Int32.toNatClampNeg s)) = v1 then zw_let (s + 1 : Int32) fun x12 => (some (.inl x12)) else some (.inr (.inr ())))))
theorem s_X9_stands_16_ok (X : zw_X) (P : Option Value → aS → Prop) (v0 : Nat) (v1 : Int32) (v2 : Int32) (I : zI) (R : zR) (J : zJ) (s : Int32) (o : (Int32) ⊕ ((Unit) ⊕ (Unit))) (hf : s_X9_stands_16 v0 v1 v2 I R s = some o) (hk : (zw_se (fun t => zy_V X M_X9_stands 0 P 16 [.ref v0, .int v1, .int v2, .int t] [] (I, R, J)) (fun r => (zw_se (fun r0 => zy_V X M_X9_stands 0 P 47 [.null, .null, .null, .null] [] (I, R, J)) (fun t0 => zy_V X M_X9_stands 0 P 39 [.null, .null, .null, .null] [] (I, R, J)) r)) o)) : zy_V X M_X9_stands 0 P 16 [.ref v0, .int v1, .int v2, .int s] [] (I, R, J) := by
  unfold s_X9_stands_16 at hf
  refine zv_iload_n (pc := 16) d_X9_stands_16 rfl ?_
  refine zv_iload_n (pc := 17) d_X9_stands_17 rfl ?_
  rcases zw_ifE hf with ⟨c6, hf⟩ | ⟨c6, hf⟩
  · refine zv_icmp_ge (pc := 18) (tg := 47) d_X9_stands_18 (by decide) (fun _ => ?_) (fun q => absurd c6 q)
    cases hf
    exact zx_weak (zw_leN (zw_leN (zw_leN (zw_leN zw_leZ)))) hk
  · refine zv_icmp_ge (pc := 18) (tg := 47) d_X9_stands_18 (by decide) (fun q => absurd q c6) (fun _ => ?_)
    refine zv_iload_n (pc := 21) d_X9_stands_21 rfl ?_
    refine zv_aload_n (pc := 22) d_X9_stands_22 rfl ?_
    obtain ⟨g7, hf⟩ := zw_gcE hf (by decide)
    refine zx_getI (pc := 23) d_X9_stands_23 lk_CutStones_Tests_9 (by decide) g7 ?_
    rcases zw_ifE hf with ⟨c8, hf⟩ | ⟨c8, hf⟩
    · refine zv_icmp_ge (pc := 26) (tg := 47) d_X9_stands_26 (by decide) (fun _ => ?_) (fun q => absurd c8 q)
      cases hf
      exact zx_weak (zw_leN (zw_leN (zw_leN (zw_leN zw_leZ)))) hk
    · refine zv_icmp_ge (pc := 26) (tg := 47) d_X9_stands_26 (by decide) (fun q => absurd q c8) (fun _ => ?_)
      refine zv_aload_n (pc := 29) d_X9_stands_29 rfl ?_
      obtain ⟨g9, hf⟩ := zw_gcE hf (by decide)
      refine zx_getR (pc := 30) d_X9_stands_30 lk_CutStones_Tests_25 (by decide) g7 g9 ?_
      refine zv_iload_n (pc := 33) d_X9_stands_33 rfl ?_
      obtain ⟨i10, hf⟩ := zw_inE hf
      refine zx_iald (pc := 34) d_X9_stands_34 g9 i10 ?_
      refine zv_iload_n (pc := 35) d_X9_stands_35 rfl ?_
      rcases zw_ifE hf with ⟨c11, hf⟩ | ⟨c11, hf⟩
      · refine zv_icmp_ne (pc := 36) (tg := 41) d_X9_stands_36 (by decide) (fun _ => ?_) (fun q => absurd q c11)
        obtain ⟨x12, ex12, hf⟩ := zw_letE hf
        refine zx_iinc (pc := 41) (x2 := x12) (L2 := [.ref v0, .int v1, .int v2, .int x12]) d_X9_stands_41 (by decide) rfl zc_i_1 ex12 rfl ?_
        refine zv_goto (pc := 44) (tg := 16) d_X9_stands_44 (by decide) ?_
        cases hf
        exact zx_weak (zw_leS (zw_leS (zw_leS (zw_leS zw_leZ)))) hk
      · refine zv_icmp_ne (pc := 36) (tg := 41) d_X9_stands_36 (by decide) (fun q => absurd q c11) (fun _ => ?_)
        cases hf
        exact zx_weak (zw_leN (zw_leN (zw_leN (zw_leN zw_leZ)))) hk
theorem s_X9_stands_16_lp (X : zw_X) (P : Option Value → aS → Prop) (v0 : Nat) (v1 : Int32) (v2 : Int32) (I : zI) (R : zR) (J : zJ) (n : Nat) (s : Int32) (r : (Unit) ⊕ (Unit)) (h : zw_it (s_X9_stands_16 v0 v1 v2 I R) n s = some r) (hq : (zw_se (fun r0 => zy_V X M_X9_stands 0 P 47 [.null, .null, .null, .null] [] (I, R, J)) (fun t0 => zy_V X M_X9_stands 0 P 39 [.null, .null, .null, .null] [] (I, R, J)) r)) : zy_V X M_X9_stands 0 P 16 [.ref v0, .int v1, .int v2, .int s] [] (I, R, J) :=
  zw_itE (A := (fun t : Int32 => zy_V X M_X9_stands 0 P 16 [.ref v0, .int v1, .int v2, .int t] [] (I, R, J))) (Q := (fun r : (Unit) ⊕ (Unit) => (zw_se (fun r0 => zy_V X M_X9_stands 0 P 47 [.null, .null, .null, .null] [] (I, R, J)) (fun t0 => zy_V X M_X9_stands 0 P 39 [.null, .null, .null, .null] [] (I, R, J)) r))) (fun s o h1 h2 => s_X9_stands_16_ok X P v0 v1 v2 I R J s o h1 h2) n s r h hq
def f_X9_stands (v0 : Nat) (v1 : Int32) (v2 : Int32) (I : zI) (R : zR) : Option (Int32) :=
  zw_g (zw_gc v0 9) (zw_g (zw_gc (R v0 4) 13) (zw_g (zw_in v1 (zw_SH (R v0 4)).2) (if (I (R v0 4) (Int32.toNatClampNeg v1)) = (-1) then zw_let ((v1 + 1) : Int32) fun x5 => ((zw_it (s_X9_stands_16 v0 v1 v2 I R) 1000000 x5).bind fun q13 => (match q13 with | .inl a14 => (some 1) | .inr a15 => (some 0))) else some 0)))
theorem c_X9_stands (X : zw_X) (v0 : Nat) (v1 : Int32) (v2 : Int32) (I : zI) (R : zR) (J : zJ) {P : Option Value → aS → Prop} (o : Int32) (hf : f_X9_stands v0 v1 v2 I R = some o) (hk : P (some (.int o)) (I, R, J)) : zw_C X M_X9_stands 0 0 0 199 [.ref v0, .int v1, .int v2] (I, R, J) P := by
  show zy_V X M_X9_stands 0 P 0 [.ref v0, .int v1, .int v2, .null] [] (I, R, J)
  unfold f_X9_stands at hf
  refine zv_aload_n (pc := 0) d_X9_stands_0 rfl ?_
  obtain ⟨g1, hf⟩ := zw_gcE hf (by decide)
  obtain ⟨g2, hf⟩ := zw_gcE hf (by decide)
  refine zx_getR (pc := 1) d_X9_stands_1 lk_CutStones_Tests_25 (by decide) g1 g2 ?_
  refine zv_iload_n (pc := 4) d_X9_stands_4 rfl ?_
  obtain ⟨i3, hf⟩ := zw_inE hf
  refine zx_iald (pc := 5) d_X9_stands_5 g2 i3 ?_
  refine zv_iconst (pc := 6) d_X9_stands_6 zc_i_m1 ?_
  rcases zw_ifE hf with ⟨c4, hf⟩ | ⟨c4, hf⟩
  · refine zv_icmp_eq (pc := 7) (tg := 12) d_X9_stands_7 (by decide) (fun _ => ?_) (fun q => absurd c4 q)
    refine zv_iload_n (pc := 12) d_X9_stands_12 rfl ?_
    refine zv_iconst (pc := 13) d_X9_stands_13 zc_i_1 ?_
    refine zv_iadd (pc := 14) d_X9_stands_14 ?_
    obtain ⟨x5, ex5, hf⟩ := zw_letE hf
    refine zx_istore_n (pc := 15) (x2 := x5) (L2 := [.ref v0, .int v1, .int v2, .int x5]) d_X9_stands_15 (by decide) ex5 rfl ?_
    obtain ⟨q13, hq13, hf⟩ := zw_bdE hf
    refine zx_weak (L' := [.ref v0, .int v1, .int v2, .int x5]) (zw_leS (zw_leS (zw_leS (zw_leS zw_leZ)))) (s_X9_stands_16_lp X P v0 v1 v2 I R J _ _ _ hq13 ?_)
    rcases q13 with a14 | a15
    ·
      show zy_V X M_X9_stands 0 P 47 [.null, .null, .null, .null] [] (I, R, J)
      refine zv_iconst (pc := 47) d_X9_stands_47 zc_i_1 ?_
      cases hf
      exact zx_zret (pc := 48) d_X9_stands_48 rfl (Or.inr rfl) hk
    ·
      show zy_V X M_X9_stands 0 P 39 [.null, .null, .null, .null] [] (I, R, J)
      refine zv_iconst (pc := 39) d_X9_stands_39 zc_i_0 ?_
      cases hf
      exact zx_zret (pc := 40) d_X9_stands_40 rfl (Or.inl rfl) hk
  · refine zv_icmp_eq (pc := 7) (tg := 12) d_X9_stands_7 (by decide) (fun q => absurd q c4) (fun _ => ?_)
    refine zv_iconst (pc := 10) d_X9_stands_10 zc_i_0 ?_
    cases hf
    exact zx_zret (pc := 11) d_X9_stands_11 rfl (Or.inl rfl) hk
abbrev M_J0_checkIndex_df160 : zw_M := (⟨"java/lang/String", "checkIndex", "(II)V"⟩, prog_17_method_155_code, 2, (Option.none : Option Jvm.ClassFile.FieldType))
theorem d_J0_checkIndex_df160_0 : decode M_J0_checkIndex_df160.2.1 0 = .ok (.iload_n 0, 1) := by decide +kernel
theorem d_J0_checkIndex_df160_1 : decode M_J0_checkIndex_df160.2.1 1 = .ok (.iload_n 1, 1) := by decide +kernel
theorem d_J0_checkIndex_df160_2 : decode M_J0_checkIndex_df160.2.1 2 = .ok (.getstatic 1053, 3) := by decide +kernel
theorem d_J0_checkIndex_df160_5 : decode M_J0_checkIndex_df160.2.1 5 = .ok (.invokestatic 1059, 3) := by decide +kernel
theorem d_J0_checkIndex_df160_8 : decode M_J0_checkIndex_df160.2.1 8 = .ok (.pop, 1) := by decide +kernel
theorem d_J0_checkIndex_df160_9 : decode M_J0_checkIndex_df160.2.1 9 = .ok (.return_, 1) := by decide +kernel
theorem ce_J0_checkIndex_df160 : zw_CeS M_J0_checkIndex_df160 2 := ⟨⟨⟨by decide +kernel, by decide +kernel, by decide +kernel⟩, (zw_mG (List.mem_of_getElem? (i := 591) (by decide +kernel)) rfl), (zw_mG (List.mem_of_getElem? (i := 109) (by decide +kernel)) rfl), by decide, by decide +kernel⟩, (zw_mG (List.mem_of_getElem? (i := 590) (by decide +kernel)) rfl)⟩
def f_J0_checkIndex_df160 (v0 : Int32) (v1 : Int32)  : Option (Unit) :=
  if v0 < 0 then none else if v0 < v1 then some () else none
theorem c_J3_checkIndex_null (X : zw_X) (v0 : Int32) (v1 : Int32) (I : zI) (R : zR) (J : zJ) {P : Option Value → aS → Prop} (c1 : ¬ v0 < 0) (c2 : v0 < v1) (hk : P (some (.int v0)) (I, R, J)) : zw_C X M_J3_checkIndex_8e157 0 0 0 199 [.int v0, .int v1, .null] (I, R, J) P := by
  show zy_V X M_J3_checkIndex_8e157 0 P 0 [.int v0, .int v1, .null] [] (I, R, J)
  refine zv_iload_n (pc := 0) d_J3_checkIndex_8e157_0 rfl ?_
  refine zv_if_lt (pc := 1) (tg := 9) d_J3_checkIndex_8e157_1 (by decide) (fun q => absurd q c1) (fun _ => ?_)
  refine zv_iload_n (pc := 4) d_J3_checkIndex_8e157_4 rfl ?_
  refine zv_iload_n (pc := 5) d_J3_checkIndex_8e157_5 rfl ?_
  refine zv_icmp_lt (pc := 6) (tg := 16) d_J3_checkIndex_8e157_6 (by decide) (fun _ => ?_) (fun q => absurd c2 q)
  refine zv_iload_n (pc := 16) d_J3_checkIndex_8e157_16 rfl ?_
  exact zx_iret (pc := 17) d_J3_checkIndex_8e157_17 rfl hk
theorem c_J0_checkIndex_df160 (X : zw_X) (v0 : Int32) (v1 : Int32) (I : zI) (R : zR) (J : zJ) {P : Option Value → aS → Prop} (o : Unit) (hf : f_J0_checkIndex_df160 v0 v1  = some o) (hk : P none (I, R, J)) : zw_C X M_J0_checkIndex_df160 1 0 0 199 [.int v0, .int v1] (I, R, J) P := by
  show zy_V X M_J0_checkIndex_df160 1 P 0 [.int v0, .int v1] [] (I, R, J)
  unfold f_J0_checkIndex_df160 at hf
  rcases zw_ifE hf with ⟨c1, hf⟩ | ⟨c1, hf⟩
  · cases hf
  rcases zw_ifE hf with ⟨c2, hf⟩ | ⟨c2, hf⟩
  · refine zv_iload_n (pc := 0) d_J0_checkIndex_df160_0 rfl ?_
    refine zv_iload_n (pc := 1) d_J0_checkIndex_df160_1 rfl ?_
    refine zv_getq (pc := 2) d_J0_checkIndex_df160_2 (zw_mG (List.mem_of_getElem? (i := 592) (by decide +kernel)) rfl) ?_ ?_
    · refine zx_callS (pc := 5) (As := [.int v0, .int v1, .null]) (st := []) (d2 := 0) (M2 := M_J3_checkIndex_8e157) (P2 := (fun r S => r = (some (.int v0)) ∧ S = (I, R, J))) d_J0_checkIndex_df160_5 (zw_mG (List.mem_of_getElem? (i := 594) (by decide +kernel)) rfl) ce_J3_checkIndex_8e157 (Nat.le_of_ble_eq_true rfl) rfl (Nat.le_of_ble_eq_true rfl) (by decide) (c_J3_checkIndex_null X v0 v1 I R J c1 c2 ⟨rfl, rfl⟩) ?_
      rintro _ _ ⟨rfl, rfl⟩
      show zy_V X M_J0_checkIndex_df160 1 P (5 + 3) [.int v0, .int v1] [.int v0] (I, R, J)
      refine zv_pop (pc := 8) d_J0_checkIndex_df160_8 rfl ?_
      exact zx_vret (pc := 9) d_J0_checkIndex_df160_9 rfl hk
    · refine zx_callS (pc := 5) (As := [.int v0, .int v1, .ref 1013]) (st := []) (d2 := 0) (M2 := M_J3_checkIndex_8e157) (P2 := (fun r S => r = (some (.int v0)) ∧ S = (I, R, J))) d_J0_checkIndex_df160_5 (zw_mG (List.mem_of_getElem? (i := 594) (by decide +kernel)) rfl) ce_J3_checkIndex_8e157 (Nat.le_of_ble_eq_true rfl) rfl (Nat.le_of_ble_eq_true rfl) (by decide) (c_J3_checkIndex_8e157 X v0 v1 1013 I R J v0 (by unfold f_J3_checkIndex_8e157; rw [if_neg c1, if_pos c2]) ⟨rfl, rfl⟩) ?_
      rintro _ _ ⟨rfl, rfl⟩
      show zy_V X M_J0_checkIndex_df160 1 P (5 + 3) [.int v0, .int v1] [.int v0] (I, R, J)
      refine zv_pop (pc := 8) d_J0_checkIndex_df160_8 rfl ?_
      exact zx_vret (pc := 9) d_J0_checkIndex_df160_9 rfl hk
  · cases hf
abbrev M_J0_length_8abf5 : zw_M := (⟨"java/lang/String", "length", "()I"⟩, prog_17_method_54_code, 1, (Option.some Jvm.ClassFile.FieldType.int))
theorem d_J0_length_8abf5_0 : decode M_J0_length_8abf5.2.1 0 = .ok (.aload_n 0, 1) := by decide +kernel
theorem d_J0_length_8abf5_1 : decode M_J0_length_8abf5.2.1 1 = .ok (.getfield 9, 3) := by decide +kernel
theorem d_J0_length_8abf5_4 : decode M_J0_length_8abf5.2.1 4 = .ok (.arraylength, 1) := by decide +kernel
theorem d_J0_length_8abf5_5 : decode M_J0_length_8abf5.2.1 5 = .ok (.aload_n 0, 1) := by decide +kernel
theorem d_J0_length_8abf5_6 : decode M_J0_length_8abf5.2.1 6 = .ok (.invokevirtual 335, 3) := by decide +kernel
theorem d_J0_length_8abf5_9 : decode M_J0_length_8abf5.2.1 9 = .ok (.ishr, 1) := by decide +kernel
theorem d_J0_length_8abf5_10 : decode M_J0_length_8abf5.2.1 10 = .ok (.ireturn, 1) := by decide +kernel
theorem ce_J0_length_8abf5 : zw_CeV M_J0_length_8abf5 0 := ⟨⟨⟨by decide +kernel, by decide +kernel, by decide +kernel⟩, (zw_mG (List.mem_of_getElem? (i := 571) (by decide +kernel)) rfl), (zw_mG (List.mem_of_getElem? (i := 109) (by decide +kernel)) rfl), by decide, by decide +kernel⟩, (zw_mG (List.mem_of_getElem? (i := 569) (by decide +kernel)) rfl), (zw_mG (List.mem_of_getElem? (i := 570) (by decide +kernel)) rfl)⟩
def f_J0_length_8abf5 (v0 : Nat)  : Option (Int32) :=
  zw_g (decide (v0 < 3)) ((f_J0_coder_7d493 v0).bind fun q2 => (some ((Int32.ofNat (zw_len.getD v0 0)) >>> (q2 &&& 31))))
theorem c_J0_length_8abf5 (X : zw_X) (v0 : Nat) (I : zI) (R : zR) (J : zJ) {P : Option Value → aS → Prop} (o : Int32) (hf : f_J0_length_8abf5 v0  = some o) (hk : P (some (.int o)) (I, R, J)) : zw_C X M_J0_length_8abf5 1 0 0 199 [.ref (1006 + v0)] (I, R, J) P := by
  show zy_V X M_J0_length_8abf5 1 P 0 [.ref (1006 + v0)] [] (I, R, J)
  unfold f_J0_length_8abf5 at hf
  refine zv_aload_n (pc := 0) d_J0_length_8abf5_0 rfl ?_
  obtain ⟨g1, hf⟩ := zw_gE hf
  have g1 := of_decide_eq_true g1
  refine zv_sval (pc := 1) d_J0_length_8abf5_1 g1 (zw_mG (List.mem_of_getElem? (i := 1729) (by decide +kernel)) rfl) ?_
  refine zv_slen (pc := 4) d_J0_length_8abf5_4 g1 ?_
  refine zv_aload_n (pc := 5) d_J0_length_8abf5_5 rfl ?_
  obtain ⟨q2, hq2, hf⟩ := zw_bdE hf
  refine zx_callV (pc := 6) (As := []) (o := (1006 + v0)) (st := [.int (Int32.ofNat (zw_len.getD v0 0))]) (d2 := 0) (M2 := M_J0_coder_7d493) (P2 := (fun r S => r = (some (.int q2)) ∧ S = (I, R, J))) d_J0_length_8abf5_6 (zw_mG (List.mem_of_getElem? (i := 572) (by decide +kernel)) rfl) ce_J0_coder_7d493 (Or.inr ⟨rfl, v0, g1, rfl⟩) (Nat.le_of_ble_eq_true rfl) rfl (Nat.le_of_ble_eq_true rfl) (by decide) (c_J0_coder_7d493 X v0 I R J _ hq2 ⟨rfl, rfl⟩) ?_
  rintro _ _ ⟨rfl, rfl⟩
  show zy_V X M_J0_length_8abf5 1 P (6 + 3) [.ref (1006 + v0)] [.int q2, .int (Int32.ofNat (zw_len.getD v0 0))] (I, R, J)
  refine zv_ishr (pc := 9) d_J0_length_8abf5_9 ?_
  cases hf
  exact zx_iret (pc := 10) d_J0_length_8abf5_10 rfl hk
abbrev M_J1_indexOf_4cfef : zw_M := (⟨"java/lang/StringLatin1", "indexOf", "([BIII)I"⟩, prog_18_method_22_code, 4, (Option.some Jvm.ClassFile.FieldType.int))
theorem d_J1_indexOf_4cfef_0 : decode M_J1_indexOf_4cfef.2.1 0 = .ok (.iload_n 1, 1) := by decide +kernel
theorem d_J1_indexOf_4cfef_1 : decode M_J1_indexOf_4cfef.2.1 1 = .ok (.invokestatic 88, 3) := by decide +kernel
theorem d_J1_indexOf_4cfef_4 : decode M_J1_indexOf_4cfef.2.1 4 = .ok (.ifCond .ne 5, 3) := by decide +kernel
theorem d_J1_indexOf_4cfef_7 : decode M_J1_indexOf_4cfef.2.1 7 = .ok (.iconst (-1), 1) := by decide +kernel
theorem d_J1_indexOf_4cfef_8 : decode M_J1_indexOf_4cfef.2.1 8 = .ok (.ireturn, 1) := by decide +kernel
theorem d_J1_indexOf_4cfef_9 : decode M_J1_indexOf_4cfef.2.1 9 = .ok (.iload_n 2, 1) := by decide +kernel
theorem d_J1_indexOf_4cfef_10 : decode M_J1_indexOf_4cfef.2.1 10 = .ok (.iconst 0, 1) := by decide +kernel
theorem d_J1_indexOf_4cfef_11 : decode M_J1_indexOf_4cfef.2.1 11 = .ok (.invokestatic 92, 3) := by decide +kernel
theorem d_J1_indexOf_4cfef_14 : decode M_J1_indexOf_4cfef.2.1 14 = .ok (.istore_n 2, 1) := by decide +kernel
theorem d_J1_indexOf_4cfef_15 : decode M_J1_indexOf_4cfef.2.1 15 = .ok (.iload_n 3, 1) := by decide +kernel
theorem d_J1_indexOf_4cfef_16 : decode M_J1_indexOf_4cfef.2.1 16 = .ok (.aload_n 0, 1) := by decide +kernel
theorem d_J1_indexOf_4cfef_17 : decode M_J1_indexOf_4cfef.2.1 17 = .ok (.arraylength, 1) := by decide +kernel
theorem d_J1_indexOf_4cfef_18 : decode M_J1_indexOf_4cfef.2.1 18 = .ok (.invokestatic 38, 3) := by decide +kernel
theorem d_J1_indexOf_4cfef_21 : decode M_J1_indexOf_4cfef.2.1 21 = .ok (.istore_n 3, 1) := by decide +kernel
theorem d_J1_indexOf_4cfef_22 : decode M_J1_indexOf_4cfef.2.1 22 = .ok (.iload_n 2, 1) := by decide +kernel
theorem d_J1_indexOf_4cfef_23 : decode M_J1_indexOf_4cfef.2.1 23 = .ok (.iload_n 3, 1) := by decide +kernel
theorem d_J1_indexOf_4cfef_24 : decode M_J1_indexOf_4cfef.2.1 24 = .ok (.if_icmp .lt 5, 3) := by decide +kernel
theorem d_J1_indexOf_4cfef_27 : decode M_J1_indexOf_4cfef.2.1 27 = .ok (.iconst (-1), 1) := by decide +kernel
theorem d_J1_indexOf_4cfef_28 : decode M_J1_indexOf_4cfef.2.1 28 = .ok (.ireturn, 1) := by decide +kernel
theorem d_J1_indexOf_4cfef_29 : decode M_J1_indexOf_4cfef.2.1 29 = .ok (.aload_n 0, 1) := by decide +kernel
theorem d_J1_indexOf_4cfef_30 : decode M_J1_indexOf_4cfef.2.1 30 = .ok (.iload_n 1, 1) := by decide +kernel
theorem d_J1_indexOf_4cfef_31 : decode M_J1_indexOf_4cfef.2.1 31 = .ok (.iload_n 2, 1) := by decide +kernel
theorem d_J1_indexOf_4cfef_32 : decode M_J1_indexOf_4cfef.2.1 32 = .ok (.iload_n 3, 1) := by decide +kernel
theorem d_J1_indexOf_4cfef_33 : decode M_J1_indexOf_4cfef.2.1 33 = .ok (.invokestatic 95, 3) := by decide +kernel
theorem d_J1_indexOf_4cfef_36 : decode M_J1_indexOf_4cfef.2.1 36 = .ok (.ireturn, 1) := by decide +kernel
theorem ce_J1_indexOf_4cfef : zw_CeS M_J1_indexOf_4cfef 4 := ⟨⟨⟨by decide +kernel, by decide +kernel, by decide +kernel⟩, (zw_mG (List.mem_of_getElem? (i := 640) (by decide +kernel)) rfl), (zw_mG (List.mem_of_getElem? (i := 110) (by decide +kernel)) rfl), by decide, by decide +kernel⟩, (zw_mG (List.mem_of_getElem? (i := 639) (by decide +kernel)) rfl)⟩
def f_J1_indexOf_4cfef (v0 : Nat) (v1 : Int32) (v2 : Int32) (v3 : Int32)  : Option (Int32) :=
  (f_J1_canEncode_9a6ad v1).bind fun q1 => (if ¬ q1 = 0 then zw_let ((if v2 < 0 then 0 else v2) : Int32) fun x3 => (zw_g (decide (v0 < 3)) (zw_let ((if (Int32.ofNat (zw_len.getD v0 0)) < v3 then (Int32.ofNat (zw_len.getD v0 0)) else v3) : Int32) fun x5 => (if x3 < x5 then (f_J1_indexOfChar_4cfef v0 v1 x3 x5).bind fun q7 => (some q7) else some (-1)))) else some (-1))
theorem c_J1_indexOf_4cfef (X : zw_X) (v0 : Nat) (v1 : Int32) (v2 : Int32) (v3 : Int32) (I : zI) (R : zR) (J : zJ) {P : Option Value → aS → Prop} (o : Int32) (hf : f_J1_indexOf_4cfef v0 v1 v2 v3  = some o) (hk : P (some (.int o)) (I, R, J)) : zw_C X M_J1_indexOf_4cfef 1 0 0 199 [.ref (1009 + v0), .int v1, .int v2, .int v3] (I, R, J) P := by
  show zy_V X M_J1_indexOf_4cfef 1 P 0 [.ref (1009 + v0), .int v1, .int v2, .int v3] [] (I, R, J)
  unfold f_J1_indexOf_4cfef at hf
  refine zv_iload_n (pc := 0) d_J1_indexOf_4cfef_0 rfl ?_
  obtain ⟨q1, hq1, hf⟩ := zw_bdE hf
  refine zx_callS (pc := 1) (As := [.int v1]) (st := []) (d2 := 0) (M2 := M_J1_canEncode_9a6ad) (P2 := (fun r S => r = (some (.int q1)) ∧ S = (I, R, J))) d_J1_indexOf_4cfef_1 (zw_mG (List.mem_of_getElem? (i := 641) (by decide +kernel)) rfl) ce_J1_canEncode_9a6ad (Nat.le_of_ble_eq_true rfl) rfl (Nat.le_of_ble_eq_true rfl) (by decide) (c_J1_canEncode_9a6ad X v1 I R J _ hq1 ⟨rfl, rfl⟩) ?_
  rintro _ _ ⟨rfl, rfl⟩
  show zy_V X M_J1_indexOf_4cfef 1 P (1 + 3) [.ref (1009 + v0), .int v1, .int v2, .int v3] [.int q1] (I, R, J)
  rcases zw_ifE hf with ⟨c2, hf⟩ | ⟨c2, hf⟩
  · refine zv_if_ne (pc := 4) (tg := 9) d_J1_indexOf_4cfef_4 (by decide) (fun _ => ?_) (fun q => absurd q c2)
    refine zv_iload_n (pc := 9) d_J1_indexOf_4cfef_9 rfl ?_
    refine zv_iconst (pc := 10) d_J1_indexOf_4cfef_10 zc_i_0 ?_
    refine zv_max (pc := 11) d_J1_indexOf_4cfef_11 (zw_mG (List.mem_of_getElem? (i := 644) (by decide +kernel)) rfl) (by decide) (Nat.le_of_ble_eq_true rfl) ⟨Nat.le_refl _, Nat.le_refl _⟩ ?_
    obtain ⟨x3, ex3, hf⟩ := zw_letE hf
    rw [← ex3]
    refine zx_istore_n (pc := 14) (x2 := x3) (L2 := [.ref (1009 + v0), .int v1, .int x3, .int v3]) d_J1_indexOf_4cfef_14 (by decide) rfl rfl ?_
    refine zv_iload_n (pc := 15) d_J1_indexOf_4cfef_15 rfl ?_
    refine zv_aload_n (pc := 16) d_J1_indexOf_4cfef_16 rfl ?_
    obtain ⟨g4, hf⟩ := zw_gE hf
    have g4 := of_decide_eq_true g4
    refine zv_slen (pc := 17) d_J1_indexOf_4cfef_17 g4 ?_
    refine zv_min (pc := 18) d_J1_indexOf_4cfef_18 (zw_mG (List.mem_of_getElem? (i := 647) (by decide +kernel)) rfl) (by decide) (Nat.le_of_ble_eq_true rfl) ⟨Nat.le_refl _, Nat.le_refl _⟩ ?_
    obtain ⟨x5, ex5, hf⟩ := zw_letE hf
    rw [← ex5]
    refine zx_istore_n (pc := 21) (x2 := x5) (L2 := [.ref (1009 + v0), .int v1, .int x3, .int x5]) d_J1_indexOf_4cfef_21 (by decide) rfl rfl ?_
    refine zv_iload_n (pc := 22) d_J1_indexOf_4cfef_22 rfl ?_
    refine zv_iload_n (pc := 23) d_J1_indexOf_4cfef_23 rfl ?_
    rcases zw_ifE hf with ⟨c6, hf⟩ | ⟨c6, hf⟩
    · refine zv_icmp_lt (pc := 24) (tg := 29) d_J1_indexOf_4cfef_24 (by decide) (fun _ => ?_) (fun q => absurd c6 q)
      refine zv_aload_n (pc := 29) d_J1_indexOf_4cfef_29 rfl ?_
      refine zv_iload_n (pc := 30) d_J1_indexOf_4cfef_30 rfl ?_
      refine zv_iload_n (pc := 31) d_J1_indexOf_4cfef_31 rfl ?_
      refine zv_iload_n (pc := 32) d_J1_indexOf_4cfef_32 rfl ?_
      obtain ⟨q7, hq7, hf⟩ := zw_bdE hf
      refine zx_callS (pc := 33) (As := [.ref (1009 + v0), .int v1, .int x3, .int x5]) (st := []) (d2 := 0) (M2 := M_J1_indexOfChar_4cfef) (P2 := (fun r S => r = (some (.int q7)) ∧ S = (I, R, J))) d_J1_indexOf_4cfef_33 (zw_mG (List.mem_of_getElem? (i := 650) (by decide +kernel)) rfl) ce_J1_indexOfChar_4cfef (Nat.le_of_ble_eq_true rfl) rfl (Nat.le_of_ble_eq_true rfl) (by decide) (c_J1_indexOfChar_4cfef X v0 v1 x3 x5 I R J _ hq7 ⟨rfl, rfl⟩) ?_
      rintro _ _ ⟨rfl, rfl⟩
      show zy_V X M_J1_indexOf_4cfef 1 P (33 + 3) [.ref (1009 + v0), .int v1, .int x3, .int x5] [.int q7] (I, R, J)
      cases hf
      exact zx_iret (pc := 36) d_J1_indexOf_4cfef_36 rfl hk
    · refine zv_icmp_lt (pc := 24) (tg := 29) d_J1_indexOf_4cfef_24 (by decide) (fun q => absurd q c6) (fun _ => ?_)
      refine zv_iconst (pc := 27) d_J1_indexOf_4cfef_27 zc_i_m1 ?_
      cases hf
      exact zx_iret (pc := 28) d_J1_indexOf_4cfef_28 rfl hk
  · refine zv_if_ne (pc := 4) (tg := 9) d_J1_indexOf_4cfef_4 (by decide) (fun q => absurd q c2) (fun _ => ?_)
    refine zv_iconst (pc := 7) d_J1_indexOf_4cfef_7 zc_i_m1 ?_
    cases hf
    exact zx_iret (pc := 8) d_J1_indexOf_4cfef_8 rfl hk
abbrev M_X0_isMirrored : zw_M := (⟨"CutStones$Drawing", "isMirrored", "()Z"⟩, prog_2_method_8_code, 3, (Option.some Jvm.ClassFile.FieldType.boolean))
theorem d_X0_isMirrored_0 : decode M_X0_isMirrored.2.1 0 = .ok (.iconst 0, 1) := by decide +kernel
theorem d_X0_isMirrored_1 : decode M_X0_isMirrored.2.1 1 = .ok (.istore_n 1, 1) := by decide +kernel
theorem d_X0_isMirrored_2 : decode M_X0_isMirrored.2.1 2 = .ok (.iload_n 1, 1) := by decide +kernel
theorem d_X0_isMirrored_3 : decode M_X0_isMirrored.2.1 3 = .ok (.aload_n 0, 1) := by decide +kernel
theorem d_X0_isMirrored_4 : decode M_X0_isMirrored.2.1 4 = .ok (.getfield 19, 3) := by decide +kernel
theorem d_X0_isMirrored_7 : decode M_X0_isMirrored.2.1 7 = .ok (.if_icmp .ge 53, 3) := by decide +kernel
theorem d_X0_isMirrored_10 : decode M_X0_isMirrored.2.1 10 = .ok (.iconst 0, 1) := by decide +kernel
theorem d_X0_isMirrored_11 : decode M_X0_isMirrored.2.1 11 = .ok (.istore_n 2, 1) := by decide +kernel
theorem d_X0_isMirrored_12 : decode M_X0_isMirrored.2.1 12 = .ok (.iload_n 2, 1) := by decide +kernel
theorem d_X0_isMirrored_13 : decode M_X0_isMirrored.2.1 13 = .ok (.aload_n 0, 1) := by decide +kernel
theorem d_X0_isMirrored_14 : decode M_X0_isMirrored.2.1 14 = .ok (.getfield 15, 3) := by decide +kernel
theorem d_X0_isMirrored_17 : decode M_X0_isMirrored.2.1 17 = .ok (.if_icmp .ge 37, 3) := by decide +kernel
theorem d_X0_isMirrored_20 : decode M_X0_isMirrored.2.1 20 = .ok (.aload_n 0, 1) := by decide +kernel
theorem d_X0_isMirrored_21 : decode M_X0_isMirrored.2.1 21 = .ok (.iload_n 2, 1) := by decide +kernel
theorem d_X0_isMirrored_22 : decode M_X0_isMirrored.2.1 22 = .ok (.iload_n 1, 1) := by decide +kernel
theorem d_X0_isMirrored_23 : decode M_X0_isMirrored.2.1 23 = .ok (.invokevirtual 52, 3) := by decide +kernel
theorem d_X0_isMirrored_26 : decode M_X0_isMirrored.2.1 26 = .ok (.getstatic 61, 3) := by decide +kernel
theorem d_X0_isMirrored_29 : decode M_X0_isMirrored.2.1 29 = .ok (.aload_n 0, 1) := by decide +kernel
theorem d_X0_isMirrored_30 : decode M_X0_isMirrored.2.1 30 = .ok (.aload_n 0, 1) := by decide +kernel
theorem d_X0_isMirrored_31 : decode M_X0_isMirrored.2.1 31 = .ok (.getfield 15, 3) := by decide +kernel
theorem d_X0_isMirrored_34 : decode M_X0_isMirrored.2.1 34 = .ok (.iconst 1, 1) := by decide +kernel
theorem d_X0_isMirrored_35 : decode M_X0_isMirrored.2.1 35 = .ok (.isub, 1) := by decide +kernel
theorem d_X0_isMirrored_36 : decode M_X0_isMirrored.2.1 36 = .ok (.iload_n 2, 1) := by decide +kernel
theorem d_X0_isMirrored_37 : decode M_X0_isMirrored.2.1 37 = .ok (.isub, 1) := by decide +kernel
theorem d_X0_isMirrored_38 : decode M_X0_isMirrored.2.1 38 = .ok (.iload_n 1, 1) := by decide +kernel
theorem d_X0_isMirrored_39 : decode M_X0_isMirrored.2.1 39 = .ok (.invokevirtual 52, 3) := by decide +kernel
theorem d_X0_isMirrored_42 : decode M_X0_isMirrored.2.1 42 = .ok (.iaload, 1) := by decide +kernel
theorem d_X0_isMirrored_43 : decode M_X0_isMirrored.2.1 43 = .ok (.if_icmp .eq 5, 3) := by decide +kernel
theorem d_X0_isMirrored_46 : decode M_X0_isMirrored.2.1 46 = .ok (.iconst 0, 1) := by decide +kernel
theorem d_X0_isMirrored_47 : decode M_X0_isMirrored.2.1 47 = .ok (.ireturn, 1) := by decide +kernel
theorem d_X0_isMirrored_48 : decode M_X0_isMirrored.2.1 48 = .ok (.iinc 2 1, 3) := by decide +kernel
theorem d_X0_isMirrored_51 : decode M_X0_isMirrored.2.1 51 = .ok (.goto (-39), 3) := by decide +kernel
theorem d_X0_isMirrored_54 : decode M_X0_isMirrored.2.1 54 = .ok (.iinc 1 1, 3) := by decide +kernel
theorem d_X0_isMirrored_57 : decode M_X0_isMirrored.2.1 57 = .ok (.goto (-55), 3) := by decide +kernel
theorem d_X0_isMirrored_60 : decode M_X0_isMirrored.2.1 60 = .ok (.iconst 1, 1) := by decide +kernel
theorem d_X0_isMirrored_61 : decode M_X0_isMirrored.2.1 61 = .ok (.ireturn, 1) := by decide +kernel
theorem ce_X0_isMirrored : zw_CeV M_X0_isMirrored 0 := ⟨⟨⟨by decide +kernel, by decide +kernel, by decide +kernel⟩, (zw_mG (List.mem_of_getElem? (i := 873) (by decide +kernel)) rfl), (zw_mG (List.mem_of_getElem? (i := 101) (by decide +kernel)) rfl), by decide, by decide +kernel⟩, (zw_mG (List.mem_of_getElem? (i := 871) (by decide +kernel)) rfl), (zw_mG (List.mem_of_getElem? (i := 872) (by decide +kernel)) rfl)⟩
def s_X0_isMirrored_12 (v0 : Nat) (v1 : Int32) (I : zI) (R : zR) (s : Int32) : Option ((Int32) ⊕ ((Unit) ⊕ (Unit))) :=
  zw_g (zw_gc v0 0) (if (I v0 1) ≤ s then some (.inr (.inl ())) else (f_X0_cellAt v0 s v1 I R).bind fun q5 => ((f_X0_cellAt v0 (((I v0 1) - 1) - s) v1 I R).bind fun q6 => (zw_g (zw_in q6 (zw_sl 4).length) (if q5 = ((zw_sl 4).getD (Int32.toNatClampNeg q6) 0) then zw_let (s + 1 : Int32) fun x9 => (some (.inl x9)) else some (.inr (.inr ()))))))
theorem s_X0_isMirrored_12_ok (X : zw_X) (P : Option Value → aS → Prop) (v0 : Nat) (v1 : Int32) (I : zI) (R : zR) (J : zJ) (s : Int32) (o : (Int32) ⊕ ((Unit) ⊕ (Unit))) (hf : s_X0_isMirrored_12 v0 v1 I R s = some o) (hk : (zw_se (fun t => zy_V X M_X0_isMirrored 1 P 12 [.ref v0, .int v1, .int t] [] (I, R, J)) (fun r => (zw_se (fun r0 => zy_V X M_X0_isMirrored 1 P 54 [.ref v0, .int v1, .null] [] (I, R, J)) (fun t0 => zy_V X M_X0_isMirrored 1 P 46 [.null, .null, .null] [] (I, R, J)) r)) o)) : zy_V X M_X0_isMirrored 1 P 12 [.ref v0, .int v1, .int s] [] (I, R, J) := by
  unfold s_X0_isMirrored_12 at hf
  refine zv_iload_n (pc := 12) d_X0_isMirrored_12 rfl ?_
  refine zv_aload_n (pc := 13) d_X0_isMirrored_13 rfl ?_
  obtain ⟨g3, hf⟩ := zw_gcE hf (by decide)
  refine zx_getI (pc := 14) d_X0_isMirrored_14 lk_CutStones_Drawing_15 (by decide) g3 ?_
  rcases zw_ifE hf with ⟨c4, hf⟩ | ⟨c4, hf⟩
  · refine zv_icmp_ge (pc := 17) (tg := 54) d_X0_isMirrored_17 (by decide) (fun _ => ?_) (fun q => absurd c4 q)
    cases hf
    exact zx_weak (zw_leS (zw_leS (zw_leN zw_leZ))) hk
  · refine zv_icmp_ge (pc := 17) (tg := 54) d_X0_isMirrored_17 (by decide) (fun q => absurd q c4) (fun _ => ?_)
    refine zv_aload_n (pc := 20) d_X0_isMirrored_20 rfl ?_
    refine zv_iload_n (pc := 21) d_X0_isMirrored_21 rfl ?_
    refine zv_iload_n (pc := 22) d_X0_isMirrored_22 rfl ?_
    obtain ⟨q5, hq5, hf⟩ := zw_bdE hf
    refine zx_callV (pc := 23) (As := [.int s, .int v1]) (o := v0) (st := []) (d2 := 0) (M2 := M_X0_cellAt) (P2 := (fun r S => r = (some (.int q5)) ∧ S = (I, R, J))) d_X0_isMirrored_23 (zw_mG (List.mem_of_getElem? (i := 754) (by decide +kernel)) rfl) ce_X0_cellAt (zw_RvK g3 rfl rfl) (Nat.le_of_ble_eq_true rfl) rfl (Nat.le_of_ble_eq_true rfl) (by decide) (c_X0_cellAt X v0 s v1 I R J _ hq5 ⟨rfl, rfl⟩) ?_
    rintro _ _ ⟨rfl, rfl⟩
    show zy_V X M_X0_isMirrored 1 P (23 + 3) [.ref v0, .int v1, .int s] [.int q5] (I, R, J)
    refine zv_gets (pc := 26) (a := 4) d_X0_isMirrored_26 (by decide) (by decide +kernel) ?_
    refine zv_aload_n (pc := 29) d_X0_isMirrored_29 rfl ?_
    refine zv_aload_n (pc := 30) d_X0_isMirrored_30 rfl ?_
    refine zx_getI (pc := 31) d_X0_isMirrored_31 lk_CutStones_Drawing_15 (by decide) g3 ?_
    refine zv_iconst (pc := 34) d_X0_isMirrored_34 zc_i_1 ?_
    refine zv_isub (pc := 35) d_X0_isMirrored_35 ?_
    refine zv_iload_n (pc := 36) d_X0_isMirrored_36 rfl ?_
    refine zv_isub (pc := 37) d_X0_isMirrored_37 ?_
    refine zv_iload_n (pc := 38) d_X0_isMirrored_38 rfl ?_
    obtain ⟨q6, hq6, hf⟩ := zw_bdE hf
    refine zx_callV (pc := 39) (As := [.int (((I v0 1) - 1) - s), .int v1]) (o := v0) (st := [.ref (1000 + 4), .int q5]) (d2 := 0) (M2 := M_X0_cellAt) (P2 := (fun r S => r = (some (.int q6)) ∧ S = (I, R, J))) d_X0_isMirrored_39 (zw_mG (List.mem_of_getElem? (i := 754) (by decide +kernel)) rfl) ce_X0_cellAt (zw_RvK g3 rfl rfl) (Nat.le_of_ble_eq_true rfl) rfl (Nat.le_of_ble_eq_true rfl) (by decide) (c_X0_cellAt X v0 (((I v0 1) - 1) - s) v1 I R J _ hq6 ⟨rfl, rfl⟩) ?_
    rintro _ _ ⟨rfl, rfl⟩
    show zy_V X M_X0_isMirrored 1 P (39 + 3) [.ref v0, .int v1, .int s] [.int q6, .ref (1000 + 4), .int q5] (I, R, J)
    obtain ⟨i7, hf⟩ := zw_inE hf
    refine zv_tald (pc := 42) d_X0_isMirrored_42 (by decide) i7 ?_
    rcases zw_ifE hf with ⟨c8, hf⟩ | ⟨c8, hf⟩
    · refine zv_icmp_eq (pc := 43) (tg := 48) d_X0_isMirrored_43 (by decide) (fun _ => ?_) (fun q => absurd c8 q)
      obtain ⟨x9, ex9, hf⟩ := zw_letE hf
      refine zx_iinc (pc := 48) (x2 := x9) (L2 := [.ref v0, .int v1, .int x9]) d_X0_isMirrored_48 (by decide) rfl zc_i_1 ex9 rfl ?_
      refine zv_goto (pc := 51) (tg := 12) d_X0_isMirrored_51 (by decide) ?_
      cases hf
      exact zx_weak (zw_leS (zw_leS (zw_leS zw_leZ))) hk
    · refine zv_icmp_eq (pc := 43) (tg := 48) d_X0_isMirrored_43 (by decide) (fun q => absurd q c8) (fun _ => ?_)
      cases hf
      exact zx_weak (zw_leN (zw_leN (zw_leN zw_leZ))) hk
theorem s_X0_isMirrored_12_lp (X : zw_X) (P : Option Value → aS → Prop) (v0 : Nat) (v1 : Int32) (I : zI) (R : zR) (J : zJ) (n : Nat) (s : Int32) (r : (Unit) ⊕ (Unit)) (h : zw_it (s_X0_isMirrored_12 v0 v1 I R) n s = some r) (hq : (zw_se (fun r0 => zy_V X M_X0_isMirrored 1 P 54 [.ref v0, .int v1, .null] [] (I, R, J)) (fun t0 => zy_V X M_X0_isMirrored 1 P 46 [.null, .null, .null] [] (I, R, J)) r)) : zy_V X M_X0_isMirrored 1 P 12 [.ref v0, .int v1, .int s] [] (I, R, J) :=
  zw_itE (A := (fun t : Int32 => zy_V X M_X0_isMirrored 1 P 12 [.ref v0, .int v1, .int t] [] (I, R, J))) (Q := (fun r : (Unit) ⊕ (Unit) => (zw_se (fun r0 => zy_V X M_X0_isMirrored 1 P 54 [.ref v0, .int v1, .null] [] (I, R, J)) (fun t0 => zy_V X M_X0_isMirrored 1 P 46 [.null, .null, .null] [] (I, R, J)) r))) (fun s o h1 h2 => s_X0_isMirrored_12_ok X P v0 v1 I R J s o h1 h2) n s r h hq
def s_X0_isMirrored_2 (v0 : Nat) (I : zI) (R : zR) (s : Int32) : Option ((Int32) ⊕ ((Unit) ⊕ (Unit))) :=
  zw_g (zw_gc v0 0) (if (I v0 2) ≤ s then some (.inr (.inl ())) else (zw_it (s_X0_isMirrored_12 v0 s I R) 1000000 0).bind fun q10 => (match q10 with | .inl a11 => (zw_let (s + 1 : Int32) fun x13 => (some (.inl x13))) | .inr a12 => (some (.inr (.inr ())))))
theorem s_X0_isMirrored_2_ok (X : zw_X) (P : Option Value → aS → Prop) (v0 : Nat) (I : zI) (R : zR) (J : zJ) (s : Int32) (o : (Int32) ⊕ ((Unit) ⊕ (Unit))) (hf : s_X0_isMirrored_2 v0 I R s = some o) (hk : (zw_se (fun t => zy_V X M_X0_isMirrored 1 P 2 [.ref v0, .int t, .null] [] (I, R, J)) (fun r => (zw_se (fun r0 => zy_V X M_X0_isMirrored 1 P 60 [.null, .null, .null] [] (I, R, J)) (fun t0 => zy_V X M_X0_isMirrored 1 P 46 [.null, .null, .null] [] (I, R, J)) r)) o)) : zy_V X M_X0_isMirrored 1 P 2 [.ref v0, .int s, .null] [] (I, R, J) := by
  unfold s_X0_isMirrored_2 at hf
  refine zv_iload_n (pc := 2) d_X0_isMirrored_2 rfl ?_
  refine zv_aload_n (pc := 3) d_X0_isMirrored_3 rfl ?_
  obtain ⟨g1, hf⟩ := zw_gcE hf (by decide)
  refine zx_getI (pc := 4) d_X0_isMirrored_4 lk_CutStones_Drawing_19 (by decide) g1 ?_
  rcases zw_ifE hf with ⟨c2, hf⟩ | ⟨c2, hf⟩
  · refine zv_icmp_ge (pc := 7) (tg := 60) d_X0_isMirrored_7 (by decide) (fun _ => ?_) (fun q => absurd c2 q)
    cases hf
    exact zx_weak (zw_leN (zw_leN (zw_leN zw_leZ))) hk
  · refine zv_icmp_ge (pc := 7) (tg := 60) d_X0_isMirrored_7 (by decide) (fun q => absurd q c2) (fun _ => ?_)
    refine zv_iconst (pc := 10) d_X0_isMirrored_10 zc_i_0 ?_
    refine zx_istore_n (pc := 11) (x2 := 0) (L2 := [.ref v0, .int s, .int 0]) d_X0_isMirrored_11 (by decide) rfl rfl ?_
    obtain ⟨q10, hq10, hf⟩ := zw_bdE hf
    refine zx_weak (L' := [.ref v0, .int s, .int 0]) (zw_leS (zw_leS (zw_leS zw_leZ))) (s_X0_isMirrored_12_lp X P v0 s I R J _ _ _ hq10 ?_)
    rcases q10 with a11 | a12
    ·
      show zy_V X M_X0_isMirrored 1 P 54 [.ref v0, .int s, .null] [] (I, R, J)
      obtain ⟨x13, ex13, hf⟩ := zw_letE hf
      refine zx_iinc (pc := 54) (x2 := x13) (L2 := [.ref v0, .int x13, .null]) d_X0_isMirrored_54 (by decide) rfl zc_i_1 ex13 rfl ?_
      refine zv_goto (pc := 57) (tg := 2) d_X0_isMirrored_57 (by decide) ?_
      cases hf
      exact zx_weak (zw_leS (zw_leS (zw_leN zw_leZ))) hk
    ·
      show zy_V X M_X0_isMirrored 1 P 46 [.null, .null, .null] [] (I, R, J)
      cases hf
      exact zx_weak (zw_leN (zw_leN (zw_leN zw_leZ))) hk
theorem s_X0_isMirrored_2_lp (X : zw_X) (P : Option Value → aS → Prop) (v0 : Nat) (I : zI) (R : zR) (J : zJ) (n : Nat) (s : Int32) (r : (Unit) ⊕ (Unit)) (h : zw_it (s_X0_isMirrored_2 v0 I R) n s = some r) (hq : (zw_se (fun r0 => zy_V X M_X0_isMirrored 1 P 60 [.null, .null, .null] [] (I, R, J)) (fun t0 => zy_V X M_X0_isMirrored 1 P 46 [.null, .null, .null] [] (I, R, J)) r)) : zy_V X M_X0_isMirrored 1 P 2 [.ref v0, .int s, .null] [] (I, R, J) :=
  zw_itE (A := (fun t : Int32 => zy_V X M_X0_isMirrored 1 P 2 [.ref v0, .int t, .null] [] (I, R, J))) (Q := (fun r : (Unit) ⊕ (Unit) => (zw_se (fun r0 => zy_V X M_X0_isMirrored 1 P 60 [.null, .null, .null] [] (I, R, J)) (fun t0 => zy_V X M_X0_isMirrored 1 P 46 [.null, .null, .null] [] (I, R, J)) r))) (fun s o h1 h2 => s_X0_isMirrored_2_ok X P v0 I R J s o h1 h2) n s r h hq
def f_X0_isMirrored (v0 : Nat) (I : zI) (R : zR) : Option (Int32) :=
  (zw_it (s_X0_isMirrored_2 v0 I R) 1000000 0).bind fun q14 => (match q14 with | .inl a15 => (some 1) | .inr a16 => (some 0))
theorem c_X0_isMirrored (X : zw_X) (v0 : Nat) (I : zI) (R : zR) (J : zJ) {P : Option Value → aS → Prop} (o : Int32) (hf : f_X0_isMirrored v0 I R = some o) (hk : P (some (.int o)) (I, R, J)) : zw_C X M_X0_isMirrored 1 0 0 199 [.ref v0] (I, R, J) P := by
  show zy_V X M_X0_isMirrored 1 P 0 [.ref v0, .null, .null] [] (I, R, J)
  unfold f_X0_isMirrored at hf
  refine zv_iconst (pc := 0) d_X0_isMirrored_0 zc_i_0 ?_
  refine zx_istore_n (pc := 1) (x2 := 0) (L2 := [.ref v0, .int 0, .null]) d_X0_isMirrored_1 (by decide) rfl rfl ?_
  obtain ⟨q14, hq14, hf⟩ := zw_bdE hf
  refine zx_weak (L' := [.ref v0, .int 0, .null]) (zw_leS (zw_leS (zw_leN zw_leZ))) (s_X0_isMirrored_2_lp X P v0 I R J _ _ _ hq14 ?_)
  rcases q14 with a15 | a16
  ·
    show zy_V X M_X0_isMirrored 1 P 60 [.null, .null, .null] [] (I, R, J)
    refine zv_iconst (pc := 60) d_X0_isMirrored_60 zc_i_1 ?_
    cases hf
    exact zx_zret (pc := 61) d_X0_isMirrored_61 rfl (Or.inr rfl) hk
  ·
    show zy_V X M_X0_isMirrored 1 P 46 [.null, .null, .null] [] (I, R, J)
    refine zv_iconst (pc := 46) d_X0_isMirrored_46 zc_i_0 ?_
    cases hf
    exact zx_zret (pc := 47) d_X0_isMirrored_47 rfl (Or.inl rfl) hk
abbrev M_X0_liesIn : zw_M := (⟨"CutStones$Drawing", "liesIn", "(LCutStones$Drawing;II)Z"⟩, prog_2_method_9_code, 9, (Option.some Jvm.ClassFile.FieldType.boolean))
theorem d_X0_liesIn_0 : decode M_X0_liesIn.2.1 0 = .ok (.iload_n 2, 1) := by decide +kernel
theorem d_X0_liesIn_1 : decode M_X0_liesIn.2.1 1 = .ok (.aload_n 0, 1) := by decide +kernel
theorem d_X0_liesIn_2 : decode M_X0_liesIn.2.1 2 = .ok (.getfield 31, 3) := by decide +kernel
theorem d_X0_liesIn_5 : decode M_X0_liesIn.2.1 5 = .ok (.iadd, 1) := by decide +kernel
theorem d_X0_liesIn_6 : decode M_X0_liesIn.2.1 6 = .ok (.aload_n 1, 1) := by decide +kernel
theorem d_X0_liesIn_7 : decode M_X0_liesIn.2.1 7 = .ok (.getfield 15, 3) := by decide +kernel
theorem d_X0_liesIn_10 : decode M_X0_liesIn.2.1 10 = .ok (.if_icmp .ge 16, 3) := by decide +kernel
theorem d_X0_liesIn_13 : decode M_X0_liesIn.2.1 13 = .ok (.iload_n 3, 1) := by decide +kernel
theorem d_X0_liesIn_14 : decode M_X0_liesIn.2.1 14 = .ok (.aload_n 0, 1) := by decide +kernel
theorem d_X0_liesIn_15 : decode M_X0_liesIn.2.1 15 = .ok (.getfield 34, 3) := by decide +kernel
theorem d_X0_liesIn_18 : decode M_X0_liesIn.2.1 18 = .ok (.iadd, 1) := by decide +kernel
theorem d_X0_liesIn_19 : decode M_X0_liesIn.2.1 19 = .ok (.aload_n 1, 1) := by decide +kernel
theorem d_X0_liesIn_20 : decode M_X0_liesIn.2.1 20 = .ok (.getfield 19, 3) := by decide +kernel
theorem d_X0_liesIn_23 : decode M_X0_liesIn.2.1 23 = .ok (.if_icmp .lt 5, 3) := by decide +kernel
theorem d_X0_liesIn_26 : decode M_X0_liesIn.2.1 26 = .ok (.iconst 0, 1) := by decide +kernel
theorem d_X0_liesIn_27 : decode M_X0_liesIn.2.1 27 = .ok (.ireturn, 1) := by decide +kernel
theorem d_X0_liesIn_28 : decode M_X0_liesIn.2.1 28 = .ok (.iconst 0, 1) := by decide +kernel
theorem d_X0_liesIn_29 : decode M_X0_liesIn.2.1 29 = .ok (.istore 4, 2) := by decide +kernel
theorem d_X0_liesIn_31 : decode M_X0_liesIn.2.1 31 = .ok (.iload 4, 2) := by decide +kernel
theorem d_X0_liesIn_33 : decode M_X0_liesIn.2.1 33 = .ok (.aload_n 0, 1) := by decide +kernel
theorem d_X0_liesIn_34 : decode M_X0_liesIn.2.1 34 = .ok (.getfield 34, 3) := by decide +kernel
theorem d_X0_liesIn_37 : decode M_X0_liesIn.2.1 37 = .ok (.if_icmp .gt 92, 3) := by decide +kernel
theorem d_X0_liesIn_40 : decode M_X0_liesIn.2.1 40 = .ok (.aload_n 0, 1) := by decide +kernel
theorem d_X0_liesIn_41 : decode M_X0_liesIn.2.1 41 = .ok (.getfield 28, 3) := by decide +kernel
theorem d_X0_liesIn_44 : decode M_X0_liesIn.2.1 44 = .ok (.istore 5, 2) := by decide +kernel
theorem d_X0_liesIn_46 : decode M_X0_liesIn.2.1 46 = .ok (.iload 5, 2) := by decide +kernel
theorem d_X0_liesIn_48 : decode M_X0_liesIn.2.1 48 = .ok (.aload_n 0, 1) := by decide +kernel
theorem d_X0_liesIn_49 : decode M_X0_liesIn.2.1 49 = .ok (.getfield 31, 3) := by decide +kernel
theorem d_X0_liesIn_52 : decode M_X0_liesIn.2.1 52 = .ok (.if_icmp .gt 71, 3) := by decide +kernel
theorem d_X0_liesIn_55 : decode M_X0_liesIn.2.1 55 = .ok (.aload_n 0, 1) := by decide +kernel
theorem d_X0_liesIn_56 : decode M_X0_liesIn.2.1 56 = .ok (.iload 5, 2) := by decide +kernel
theorem d_X0_liesIn_58 : decode M_X0_liesIn.2.1 58 = .ok (.iload 4, 2) := by decide +kernel
theorem d_X0_liesIn_60 : decode M_X0_liesIn.2.1 60 = .ok (.invokevirtual 52, 3) := by decide +kernel
theorem d_X0_liesIn_63 : decode M_X0_liesIn.2.1 63 = .ok (.istore 6, 2) := by decide +kernel
theorem d_X0_liesIn_65 : decode M_X0_liesIn.2.1 65 = .ok (.aload_n 1, 1) := by decide +kernel
theorem d_X0_liesIn_66 : decode M_X0_liesIn.2.1 66 = .ok (.iload_n 2, 1) := by decide +kernel
theorem d_X0_liesIn_67 : decode M_X0_liesIn.2.1 67 = .ok (.iload 5, 2) := by decide +kernel
theorem d_X0_liesIn_69 : decode M_X0_liesIn.2.1 69 = .ok (.iadd, 1) := by decide +kernel
theorem d_X0_liesIn_70 : decode M_X0_liesIn.2.1 70 = .ok (.iload_n 3, 1) := by decide +kernel
theorem d_X0_liesIn_71 : decode M_X0_liesIn.2.1 71 = .ok (.iload 4, 2) := by decide +kernel
theorem d_X0_liesIn_73 : decode M_X0_liesIn.2.1 73 = .ok (.iadd, 1) := by decide +kernel
theorem d_X0_liesIn_74 : decode M_X0_liesIn.2.1 74 = .ok (.invokevirtual 52, 3) := by decide +kernel
theorem d_X0_liesIn_77 : decode M_X0_liesIn.2.1 77 = .ok (.istore 7, 2) := by decide +kernel
theorem d_X0_liesIn_79 : decode M_X0_liesIn.2.1 79 = .ok (.iload 6, 2) := by decide +kernel
theorem d_X0_liesIn_81 : decode M_X0_liesIn.2.1 81 = .ok (.iload 7, 2) := by decide +kernel
theorem d_X0_liesIn_83 : decode M_X0_liesIn.2.1 83 = .ok (.if_icmp .ne 13, 3) := by decide +kernel
theorem d_X0_liesIn_86 : decode M_X0_liesIn.2.1 86 = .ok (.iload 6, 2) := by decide +kernel
theorem d_X0_liesIn_88 : decode M_X0_liesIn.2.1 88 = .ok (.iconst 4, 1) := by decide +kernel
theorem d_X0_liesIn_89 : decode M_X0_liesIn.2.1 89 = .ok (.if_icmp .gt 7, 3) := by decide +kernel
theorem d_X0_liesIn_92 : decode M_X0_liesIn.2.1 92 = .ok (.iconst 1, 1) := by decide +kernel
theorem d_X0_liesIn_93 : decode M_X0_liesIn.2.1 93 = .ok (.goto 4, 3) := by decide +kernel
theorem d_X0_liesIn_96 : decode M_X0_liesIn.2.1 96 = .ok (.iconst 0, 1) := by decide +kernel
theorem d_X0_liesIn_97 : decode M_X0_liesIn.2.1 97 = .ok (.istore 8, 2) := by decide +kernel
theorem d_X0_liesIn_99 : decode M_X0_liesIn.2.1 99 = .ok (.iload 6, 2) := by decide +kernel
theorem d_X0_liesIn_101 : decode M_X0_liesIn.2.1 101 = .ok (.ifCond .eq 16, 3) := by decide +kernel
theorem d_X0_liesIn_104 : decode M_X0_liesIn.2.1 104 = .ok (.iload 7, 2) := by decide +kernel
theorem d_X0_liesIn_106 : decode M_X0_liesIn.2.1 106 = .ok (.iconst 5, 1) := by decide +kernel
theorem d_X0_liesIn_107 : decode M_X0_liesIn.2.1 107 = .ok (.if_icmp .eq 10, 3) := by decide +kernel
theorem d_X0_liesIn_110 : decode M_X0_liesIn.2.1 110 = .ok (.iload 8, 2) := by decide +kernel
theorem d_X0_liesIn_112 : decode M_X0_liesIn.2.1 112 = .ok (.ifCond .ne 5, 3) := by decide +kernel
theorem d_X0_liesIn_115 : decode M_X0_liesIn.2.1 115 = .ok (.iconst 0, 1) := by decide +kernel
theorem d_X0_liesIn_116 : decode M_X0_liesIn.2.1 116 = .ok (.ireturn, 1) := by decide +kernel
theorem d_X0_liesIn_117 : decode M_X0_liesIn.2.1 117 = .ok (.iinc 5 1, 3) := by decide +kernel
theorem d_X0_liesIn_120 : decode M_X0_liesIn.2.1 120 = .ok (.goto (-74), 3) := by decide +kernel
theorem d_X0_liesIn_123 : decode M_X0_liesIn.2.1 123 = .ok (.iinc 4 1, 3) := by decide +kernel
theorem d_X0_liesIn_126 : decode M_X0_liesIn.2.1 126 = .ok (.goto (-95), 3) := by decide +kernel
theorem d_X0_liesIn_129 : decode M_X0_liesIn.2.1 129 = .ok (.iconst 1, 1) := by decide +kernel
theorem d_X0_liesIn_130 : decode M_X0_liesIn.2.1 130 = .ok (.ireturn, 1) := by decide +kernel
theorem ce_X0_liesIn : zw_CeV M_X0_liesIn 3 := ⟨⟨⟨by decide +kernel, by decide +kernel, by decide +kernel⟩, (zw_mG (List.mem_of_getElem? (i := 1037) (by decide +kernel)) rfl), (zw_mG (List.mem_of_getElem? (i := 101) (by decide +kernel)) rfl), by decide, by decide +kernel⟩, (zw_mG (List.mem_of_getElem? (i := 1035) (by decide +kernel)) rfl), (zw_mG (List.mem_of_getElem? (i := 1036) (by decide +kernel)) rfl)⟩
def j_X0_liesIn_117_46 (v0 : Nat) (v1 : Nat) (v2 : Int32) (v3 : Int32) (v4 : Int32) (v5 : Int32) (I : zI) (R : zR) : Option ((Int32) ⊕ ((Unit) ⊕ (Unit))) :=
  zw_let (v5 + 1 : Int32) fun x15 => (some (.inl x15))
theorem j_X0_liesIn_117_46_ok (X : zw_X) (P : Option Value → aS → Prop) (v0 : Nat) (v1 : Nat) (v2 : Int32) (v3 : Int32) (v4 : Int32) (v5 : Int32) (I : zI) (R : zR) (J : zJ) (o : (Int32) ⊕ ((Unit) ⊕ (Unit))) (hf : j_X0_liesIn_117_46 v0 v1 v2 v3 v4 v5 I R = some o) (hk : (zw_se (fun t => zy_V X M_X0_liesIn 1 P 46 [.ref v0, .ref v1, .int v2, .int v3, .int v4, .int t, .null, .null, .null] [] (I, R, J)) (fun r => (zw_se (fun r0 => zy_V X M_X0_liesIn 1 P 123 [.ref v0, .ref v1, .int v2, .int v3, .int v4, .null, .null, .null, .null] [] (I, R, J)) (fun t0 => zy_V X M_X0_liesIn 1 P 115 [.null, .null, .null, .null, .null, .null, .null, .null, .null] [] (I, R, J)) r)) o)) : zy_V X M_X0_liesIn 1 P 117 [.ref v0, .ref v1, .int v2, .int v3, .int v4, .int v5, .null, .null, .null] [] (I, R, J) := by
  unfold j_X0_liesIn_117_46 at hf
  obtain ⟨x15, ex15, hf⟩ := zw_letE hf
  refine zx_iinc (pc := 117) (x2 := x15) (L2 := [.ref v0, .ref v1, .int v2, .int v3, .int v4, .int x15, .null, .null, .null]) d_X0_liesIn_117 (by decide) rfl zc_i_1 ex15 rfl ?_
  refine zv_goto (pc := 120) (tg := 46) d_X0_liesIn_120 (by decide) ?_
  cases hf
  exact zx_weak (zw_leS (zw_leS (zw_leS (zw_leS (zw_leS (zw_leS (zw_leN (zw_leN (zw_leN zw_leZ))))))))) hk
def j_X0_liesIn_97_46 (v0 : Nat) (v1 : Nat) (v2 : Int32) (v3 : Int32) (v4 : Int32) (v5 : Int32) (v6 : Int32) (v7 : Int32) (s0 : Int32) (I : zI) (R : zR) : Option ((Int32) ⊕ ((Unit) ⊕ (Unit))) :=
  if v6 = 0 then j_X0_liesIn_117_46 v0 v1 v2 v3 v4 v5 I R else if v7 = 5 then j_X0_liesIn_117_46 v0 v1 v2 v3 v4 v5 I R else if ¬ s0 = 0 then j_X0_liesIn_117_46 v0 v1 v2 v3 v4 v5 I R else some (.inr (.inr ()))
theorem j_X0_liesIn_97_46_ok (X : zw_X) (P : Option Value → aS → Prop) (v0 : Nat) (v1 : Nat) (v2 : Int32) (v3 : Int32) (v4 : Int32) (v5 : Int32) (v6 : Int32) (v7 : Int32) (s0 : Int32) (I : zI) (R : zR) (J : zJ) (o : (Int32) ⊕ ((Unit) ⊕ (Unit))) (hf : j_X0_liesIn_97_46 v0 v1 v2 v3 v4 v5 v6 v7 s0 I R = some o) (hk : (zw_se (fun t => zy_V X M_X0_liesIn 1 P 46 [.ref v0, .ref v1, .int v2, .int v3, .int v4, .int t, .null, .null, .null] [] (I, R, J)) (fun r => (zw_se (fun r0 => zy_V X M_X0_liesIn 1 P 123 [.ref v0, .ref v1, .int v2, .int v3, .int v4, .null, .null, .null, .null] [] (I, R, J)) (fun t0 => zy_V X M_X0_liesIn 1 P 115 [.null, .null, .null, .null, .null, .null, .null, .null, .null] [] (I, R, J)) r)) o)) : zy_V X M_X0_liesIn 1 P 97 [.ref v0, .ref v1, .int v2, .int v3, .int v4, .int v5, .int v6, .int v7, .null] [.int s0] (I, R, J) := by
  unfold j_X0_liesIn_97_46 at hf
  refine zx_istore (pc := 97) (x2 := s0) (L2 := [.ref v0, .ref v1, .int v2, .int v3, .int v4, .int v5, .int v6, .int v7, .int s0]) d_X0_liesIn_97 (by decide) rfl rfl ?_
  refine zv_iload (pc := 99) d_X0_liesIn_99 rfl ?_
  rcases zw_ifE hf with ⟨c14, hf⟩ | ⟨c14, hf⟩
  · refine zv_if_eq (pc := 101) (tg := 117) d_X0_liesIn_101 (by decide) (fun _ => ?_) (fun q => absurd c14 q)
    exact zx_weak (zw_leS (zw_leS (zw_leS (zw_leS (zw_leS (zw_leS (zw_leN (zw_leN (zw_leN zw_leZ))))))))) (j_X0_liesIn_117_46_ok X P v0 v1 v2 v3 v4 v5 I R J _ hf hk)
  · refine zv_if_eq (pc := 101) (tg := 117) d_X0_liesIn_101 (by decide) (fun q => absurd q c14) (fun _ => ?_)
    refine zv_iload (pc := 104) d_X0_liesIn_104 rfl ?_
    refine zv_iconst (pc := 106) d_X0_liesIn_106 zc_i_5 ?_
    rcases zw_ifE hf with ⟨c16, hf⟩ | ⟨c16, hf⟩
    · refine zv_icmp_eq (pc := 107) (tg := 117) d_X0_liesIn_107 (by decide) (fun _ => ?_) (fun q => absurd c16 q)
      exact zx_weak (zw_leS (zw_leS (zw_leS (zw_leS (zw_leS (zw_leS (zw_leN (zw_leN (zw_leN zw_leZ))))))))) (j_X0_liesIn_117_46_ok X P v0 v1 v2 v3 v4 v5 I R J _ hf hk)
    · refine zv_icmp_eq (pc := 107) (tg := 117) d_X0_liesIn_107 (by decide) (fun q => absurd q c16) (fun _ => ?_)
      refine zv_iload (pc := 110) d_X0_liesIn_110 rfl ?_
      rcases zw_ifE hf with ⟨c17, hf⟩ | ⟨c17, hf⟩
      · refine zv_if_ne (pc := 112) (tg := 117) d_X0_liesIn_112 (by decide) (fun _ => ?_) (fun q => absurd q c17)
        exact zx_weak (zw_leS (zw_leS (zw_leS (zw_leS (zw_leS (zw_leS (zw_leN (zw_leN (zw_leN zw_leZ))))))))) (j_X0_liesIn_117_46_ok X P v0 v1 v2 v3 v4 v5 I R J _ hf hk)
      · refine zv_if_ne (pc := 112) (tg := 117) d_X0_liesIn_112 (by decide) (fun q => absurd q c17) (fun _ => ?_)
        cases hf
        exact zx_weak (zw_leN (zw_leN (zw_leN (zw_leN (zw_leN (zw_leN (zw_leN (zw_leN (zw_leN zw_leZ))))))))) hk
def j_X0_liesIn_96_46 (v0 : Nat) (v1 : Nat) (v2 : Int32) (v3 : Int32) (v4 : Int32) (v5 : Int32) (v6 : Int32) (v7 : Int32) (I : zI) (R : zR) : Option ((Int32) ⊕ ((Unit) ⊕ (Unit))) :=
  j_X0_liesIn_97_46 v0 v1 v2 v3 v4 v5 v6 v7 0 I R
theorem j_X0_liesIn_96_46_ok (X : zw_X) (P : Option Value → aS → Prop) (v0 : Nat) (v1 : Nat) (v2 : Int32) (v3 : Int32) (v4 : Int32) (v5 : Int32) (v6 : Int32) (v7 : Int32) (I : zI) (R : zR) (J : zJ) (o : (Int32) ⊕ ((Unit) ⊕ (Unit))) (hf : j_X0_liesIn_96_46 v0 v1 v2 v3 v4 v5 v6 v7 I R = some o) (hk : (zw_se (fun t => zy_V X M_X0_liesIn 1 P 46 [.ref v0, .ref v1, .int v2, .int v3, .int v4, .int t, .null, .null, .null] [] (I, R, J)) (fun r => (zw_se (fun r0 => zy_V X M_X0_liesIn 1 P 123 [.ref v0, .ref v1, .int v2, .int v3, .int v4, .null, .null, .null, .null] [] (I, R, J)) (fun t0 => zy_V X M_X0_liesIn 1 P 115 [.null, .null, .null, .null, .null, .null, .null, .null, .null] [] (I, R, J)) r)) o)) : zy_V X M_X0_liesIn 1 P 96 [.ref v0, .ref v1, .int v2, .int v3, .int v4, .int v5, .int v6, .int v7, .null] [] (I, R, J) := by
  unfold j_X0_liesIn_96_46 at hf
  refine zv_iconst (pc := 96) d_X0_liesIn_96 zc_i_0 ?_
  exact zx_weak (zw_leS (zw_leS (zw_leS (zw_leS (zw_leS (zw_leS (zw_leS (zw_leS (zw_leN zw_leZ))))))))) (j_X0_liesIn_97_46_ok X P v0 v1 v2 v3 v4 v5 v6 v7 0 I R J _ hf hk)
def s_X0_liesIn_46 (v0 : Nat) (v1 : Nat) (v2 : Int32) (v3 : Int32) (v4 : Int32) (I : zI) (R : zR) (s : Int32) : Option ((Int32) ⊕ ((Unit) ⊕ (Unit))) :=
  zw_g (zw_gc v0 0) (if (I v0 6) < s then some (.inr (.inl ())) else (f_X0_cellAt v0 s v4 I R).bind fun q10 => (zw_g (zw_gc v1 0) ((f_X0_cellAt v1 (v2 + s) (v3 + v4) I R).bind fun q12 => (if ¬ q10 = q12 then j_X0_liesIn_96_46 v0 v1 v2 v3 v4 s q10 q12 I R else if 4 < q10 then j_X0_liesIn_96_46 v0 v1 v2 v3 v4 s q10 q12 I R else j_X0_liesIn_97_46 v0 v1 v2 v3 v4 s q10 q12 1 I R))))
theorem s_X0_liesIn_46_ok (X : zw_X) (P : Option Value → aS → Prop) (v0 : Nat) (v1 : Nat) (v2 : Int32) (v3 : Int32) (v4 : Int32) (I : zI) (R : zR) (J : zJ) (s : Int32) (o : (Int32) ⊕ ((Unit) ⊕ (Unit))) (hf : s_X0_liesIn_46 v0 v1 v2 v3 v4 I R s = some o) (hk : (zw_se (fun t => zy_V X M_X0_liesIn 1 P 46 [.ref v0, .ref v1, .int v2, .int v3, .int v4, .int t, .null, .null, .null] [] (I, R, J)) (fun r => (zw_se (fun r0 => zy_V X M_X0_liesIn 1 P 123 [.ref v0, .ref v1, .int v2, .int v3, .int v4, .null, .null, .null, .null] [] (I, R, J)) (fun t0 => zy_V X M_X0_liesIn 1 P 115 [.null, .null, .null, .null, .null, .null, .null, .null, .null] [] (I, R, J)) r)) o)) : zy_V X M_X0_liesIn 1 P 46 [.ref v0, .ref v1, .int v2, .int v3, .int v4, .int s, .null, .null, .null] [] (I, R, J) := by
  unfold s_X0_liesIn_46 at hf
  refine zv_iload (pc := 46) d_X0_liesIn_46 rfl ?_
  refine zv_aload_n (pc := 48) d_X0_liesIn_48 rfl ?_
  obtain ⟨g8, hf⟩ := zw_gcE hf (by decide)
  refine zx_getI (pc := 49) d_X0_liesIn_49 lk_CutStones_Drawing_31 (by decide) g8 ?_
  rcases zw_ifE hf with ⟨c9, hf⟩ | ⟨c9, hf⟩
  · refine zv_icmp_gt (pc := 52) (tg := 123) d_X0_liesIn_52 (by decide) (fun _ => ?_) (fun q => absurd c9 q)
    cases hf
    exact zx_weak (zw_leS (zw_leS (zw_leS (zw_leS (zw_leS (zw_leN (zw_leN (zw_leN (zw_leN zw_leZ))))))))) hk
  · refine zv_icmp_gt (pc := 52) (tg := 123) d_X0_liesIn_52 (by decide) (fun q => absurd q c9) (fun _ => ?_)
    refine zv_aload_n (pc := 55) d_X0_liesIn_55 rfl ?_
    refine zv_iload (pc := 56) d_X0_liesIn_56 rfl ?_
    refine zv_iload (pc := 58) d_X0_liesIn_58 rfl ?_
    obtain ⟨q10, hq10, hf⟩ := zw_bdE hf
    refine zx_callV (pc := 60) (As := [.int s, .int v4]) (o := v0) (st := []) (d2 := 0) (M2 := M_X0_cellAt) (P2 := (fun r S => r = (some (.int q10)) ∧ S = (I, R, J))) d_X0_liesIn_60 (zw_mG (List.mem_of_getElem? (i := 754) (by decide +kernel)) rfl) ce_X0_cellAt (zw_RvK g8 rfl rfl) (Nat.le_of_ble_eq_true rfl) rfl (Nat.le_of_ble_eq_true rfl) (by decide) (c_X0_cellAt X v0 s v4 I R J _ hq10 ⟨rfl, rfl⟩) ?_
    rintro _ _ ⟨rfl, rfl⟩
    show zy_V X M_X0_liesIn 1 P (60 + 3) [.ref v0, .ref v1, .int v2, .int v3, .int v4, .int s, .null, .null, .null] [.int q10] (I, R, J)
    refine zx_istore (pc := 63) (x2 := q10) (L2 := [.ref v0, .ref v1, .int v2, .int v3, .int v4, .int s, .int q10, .null, .null]) d_X0_liesIn_63 (by decide) rfl rfl ?_
    refine zv_aload_n (pc := 65) d_X0_liesIn_65 rfl ?_
    refine zv_iload_n (pc := 66) d_X0_liesIn_66 rfl ?_
    refine zv_iload (pc := 67) d_X0_liesIn_67 rfl ?_
    refine zv_iadd (pc := 69) d_X0_liesIn_69 ?_
    refine zv_iload_n (pc := 70) d_X0_liesIn_70 rfl ?_
    refine zv_iload (pc := 71) d_X0_liesIn_71 rfl ?_
    refine zv_iadd (pc := 73) d_X0_liesIn_73 ?_
    obtain ⟨g11, hf⟩ := zw_gcE hf (by decide)
    obtain ⟨q12, hq12, hf⟩ := zw_bdE hf
    refine zx_callV (pc := 74) (As := [.int (v2 + s), .int (v3 + v4)]) (o := v1) (st := []) (d2 := 0) (M2 := M_X0_cellAt) (P2 := (fun r S => r = (some (.int q12)) ∧ S = (I, R, J))) d_X0_liesIn_74 (zw_mG (List.mem_of_getElem? (i := 754) (by decide +kernel)) rfl) ce_X0_cellAt (zw_RvK g11 rfl rfl) (Nat.le_of_ble_eq_true rfl) rfl (Nat.le_of_ble_eq_true rfl) (by decide) (c_X0_cellAt X v1 (v2 + s) (v3 + v4) I R J _ hq12 ⟨rfl, rfl⟩) ?_
    rintro _ _ ⟨rfl, rfl⟩
    show zy_V X M_X0_liesIn 1 P (74 + 3) [.ref v0, .ref v1, .int v2, .int v3, .int v4, .int s, .int q10, .null, .null] [.int q12] (I, R, J)
    refine zx_istore (pc := 77) (x2 := q12) (L2 := [.ref v0, .ref v1, .int v2, .int v3, .int v4, .int s, .int q10, .int q12, .null]) d_X0_liesIn_77 (by decide) rfl rfl ?_
    refine zv_iload (pc := 79) d_X0_liesIn_79 rfl ?_
    refine zv_iload (pc := 81) d_X0_liesIn_81 rfl ?_
    rcases zw_ifE hf with ⟨c13, hf⟩ | ⟨c13, hf⟩
    · refine zv_icmp_ne (pc := 83) (tg := 96) d_X0_liesIn_83 (by decide) (fun _ => ?_) (fun q => absurd q c13)
      exact zx_weak (zw_leS (zw_leS (zw_leS (zw_leS (zw_leS (zw_leS (zw_leS (zw_leS (zw_leN zw_leZ))))))))) (j_X0_liesIn_96_46_ok X P v0 v1 v2 v3 v4 s q10 q12 I R J _ hf hk)
    · refine zv_icmp_ne (pc := 83) (tg := 96) d_X0_liesIn_83 (by decide) (fun q => absurd q c13) (fun _ => ?_)
      refine zv_iload (pc := 86) d_X0_liesIn_86 rfl ?_
      refine zv_iconst (pc := 88) d_X0_liesIn_88 zc_i_4 ?_
      rcases zw_ifE hf with ⟨c18, hf⟩ | ⟨c18, hf⟩
      · refine zv_icmp_gt (pc := 89) (tg := 96) d_X0_liesIn_89 (by decide) (fun _ => ?_) (fun q => absurd c18 q)
        exact zx_weak (zw_leS (zw_leS (zw_leS (zw_leS (zw_leS (zw_leS (zw_leS (zw_leS (zw_leN zw_leZ))))))))) (j_X0_liesIn_96_46_ok X P v0 v1 v2 v3 v4 s q10 q12 I R J _ hf hk)
      · refine zv_icmp_gt (pc := 89) (tg := 96) d_X0_liesIn_89 (by decide) (fun q => absurd q c18) (fun _ => ?_)
        refine zv_iconst (pc := 92) d_X0_liesIn_92 zc_i_1 ?_
        refine zv_goto (pc := 93) (tg := 97) d_X0_liesIn_93 (by decide) ?_
        exact zx_weak (zw_leS (zw_leS (zw_leS (zw_leS (zw_leS (zw_leS (zw_leS (zw_leS (zw_leN zw_leZ))))))))) (j_X0_liesIn_97_46_ok X P v0 v1 v2 v3 v4 s q10 q12 1 I R J _ hf hk)
theorem s_X0_liesIn_46_lp (X : zw_X) (P : Option Value → aS → Prop) (v0 : Nat) (v1 : Nat) (v2 : Int32) (v3 : Int32) (v4 : Int32) (I : zI) (R : zR) (J : zJ) (n : Nat) (s : Int32) (r : (Unit) ⊕ (Unit)) (h : zw_it (s_X0_liesIn_46 v0 v1 v2 v3 v4 I R) n s = some r) (hq : (zw_se (fun r0 => zy_V X M_X0_liesIn 1 P 123 [.ref v0, .ref v1, .int v2, .int v3, .int v4, .null, .null, .null, .null] [] (I, R, J)) (fun t0 => zy_V X M_X0_liesIn 1 P 115 [.null, .null, .null, .null, .null, .null, .null, .null, .null] [] (I, R, J)) r)) : zy_V X M_X0_liesIn 1 P 46 [.ref v0, .ref v1, .int v2, .int v3, .int v4, .int s, .null, .null, .null] [] (I, R, J) :=
  zw_itE (A := (fun t : Int32 => zy_V X M_X0_liesIn 1 P 46 [.ref v0, .ref v1, .int v2, .int v3, .int v4, .int t, .null, .null, .null] [] (I, R, J))) (Q := (fun r : (Unit) ⊕ (Unit) => (zw_se (fun r0 => zy_V X M_X0_liesIn 1 P 123 [.ref v0, .ref v1, .int v2, .int v3, .int v4, .null, .null, .null, .null] [] (I, R, J)) (fun t0 => zy_V X M_X0_liesIn 1 P 115 [.null, .null, .null, .null, .null, .null, .null, .null, .null] [] (I, R, J)) r))) (fun s o h1 h2 => s_X0_liesIn_46_ok X P v0 v1 v2 v3 v4 I R J s o h1 h2) n s r h hq
def s_X0_liesIn_31 (v0 : Nat) (v1 : Nat) (v2 : Int32) (v3 : Int32) (I : zI) (R : zR) (s : Int32) : Option ((Int32) ⊕ ((Unit) ⊕ (Unit))) :=
  zw_g (zw_gc v0 0) (if (I v0 7) < s then some (.inr (.inl ())) else zw_let ((I v0 5) : Int32) fun x7 => ((zw_it (s_X0_liesIn_46 v0 v1 v2 v3 s I R) 1000000 x7).bind fun q19 => (match q19 with | .inl a20 => (zw_let (s + 1 : Int32) fun x22 => (some (.inl x22))) | .inr a21 => (some (.inr (.inr ()))))))
theorem s_X0_liesIn_31_ok (X : zw_X) (P : Option Value → aS → Prop) (v0 : Nat) (v1 : Nat) (v2 : Int32) (v3 : Int32) (I : zI) (R : zR) (J : zJ) (s : Int32) (o : (Int32) ⊕ ((Unit) ⊕ (Unit))) (hf : s_X0_liesIn_31 v0 v1 v2 v3 I R s = some o) (hk : (zw_se (fun t => zy_V X M_X0_liesIn 1 P 31 [.ref v0, .ref v1, .int v2, .int v3, .int t, .null, .null, .null, .null] [] (I, R, J)) (fun r => (zw_se (fun r0 => zy_V X M_X0_liesIn 1 P 129 [.null, .null, .null, .null, .null, .null, .null, .null, .null] [] (I, R, J)) (fun t0 => zy_V X M_X0_liesIn 1 P 115 [.null, .null, .null, .null, .null, .null, .null, .null, .null] [] (I, R, J)) r)) o)) : zy_V X M_X0_liesIn 1 P 31 [.ref v0, .ref v1, .int v2, .int v3, .int s, .null, .null, .null, .null] [] (I, R, J) := by
  unfold s_X0_liesIn_31 at hf
  refine zv_iload (pc := 31) d_X0_liesIn_31 rfl ?_
  refine zv_aload_n (pc := 33) d_X0_liesIn_33 rfl ?_
  obtain ⟨g5, hf⟩ := zw_gcE hf (by decide)
  refine zx_getI (pc := 34) d_X0_liesIn_34 lk_CutStones_Drawing_34 (by decide) g5 ?_
  rcases zw_ifE hf with ⟨c6, hf⟩ | ⟨c6, hf⟩
  · refine zv_icmp_gt (pc := 37) (tg := 129) d_X0_liesIn_37 (by decide) (fun _ => ?_) (fun q => absurd c6 q)
    cases hf
    exact zx_weak (zw_leN (zw_leN (zw_leN (zw_leN (zw_leN (zw_leN (zw_leN (zw_leN (zw_leN zw_leZ))))))))) hk
  · refine zv_icmp_gt (pc := 37) (tg := 129) d_X0_liesIn_37 (by decide) (fun q => absurd q c6) (fun _ => ?_)
    refine zv_aload_n (pc := 40) d_X0_liesIn_40 rfl ?_
    refine zx_getI (pc := 41) d_X0_liesIn_41 lk_CutStones_Drawing_28 (by decide) g5 ?_
    obtain ⟨x7, ex7, hf⟩ := zw_letE hf
    refine zx_istore (pc := 44) (x2 := x7) (L2 := [.ref v0, .ref v1, .int v2, .int v3, .int s, .int x7, .null, .null, .null]) d_X0_liesIn_44 (by decide) ex7 rfl ?_
    obtain ⟨q19, hq19, hf⟩ := zw_bdE hf
    refine zx_weak (L' := [.ref v0, .ref v1, .int v2, .int v3, .int s, .int x7, .null, .null, .null]) (zw_leS (zw_leS (zw_leS (zw_leS (zw_leS (zw_leS (zw_leN (zw_leN (zw_leN zw_leZ))))))))) (s_X0_liesIn_46_lp X P v0 v1 v2 v3 s I R J _ _ _ hq19 ?_)
    rcases q19 with a20 | a21
    ·
      show zy_V X M_X0_liesIn 1 P 123 [.ref v0, .ref v1, .int v2, .int v3, .int s, .null, .null, .null, .null] [] (I, R, J)
      obtain ⟨x22, ex22, hf⟩ := zw_letE hf
      refine zx_iinc (pc := 123) (x2 := x22) (L2 := [.ref v0, .ref v1, .int v2, .int v3, .int x22, .null, .null, .null, .null]) d_X0_liesIn_123 (by decide) rfl zc_i_1 ex22 rfl ?_
      refine zv_goto (pc := 126) (tg := 31) d_X0_liesIn_126 (by decide) ?_
      cases hf
      exact zx_weak (zw_leS (zw_leS (zw_leS (zw_leS (zw_leS (zw_leN (zw_leN (zw_leN (zw_leN zw_leZ))))))))) hk
    ·
      show zy_V X M_X0_liesIn 1 P 115 [.null, .null, .null, .null, .null, .null, .null, .null, .null] [] (I, R, J)
      cases hf
      exact zx_weak (zw_leN (zw_leN (zw_leN (zw_leN (zw_leN (zw_leN (zw_leN (zw_leN (zw_leN zw_leZ))))))))) hk
theorem s_X0_liesIn_31_lp (X : zw_X) (P : Option Value → aS → Prop) (v0 : Nat) (v1 : Nat) (v2 : Int32) (v3 : Int32) (I : zI) (R : zR) (J : zJ) (n : Nat) (s : Int32) (r : (Unit) ⊕ (Unit)) (h : zw_it (s_X0_liesIn_31 v0 v1 v2 v3 I R) n s = some r) (hq : (zw_se (fun r0 => zy_V X M_X0_liesIn 1 P 129 [.null, .null, .null, .null, .null, .null, .null, .null, .null] [] (I, R, J)) (fun t0 => zy_V X M_X0_liesIn 1 P 115 [.null, .null, .null, .null, .null, .null, .null, .null, .null] [] (I, R, J)) r)) : zy_V X M_X0_liesIn 1 P 31 [.ref v0, .ref v1, .int v2, .int v3, .int s, .null, .null, .null, .null] [] (I, R, J) :=
  zw_itE (A := (fun t : Int32 => zy_V X M_X0_liesIn 1 P 31 [.ref v0, .ref v1, .int v2, .int v3, .int t, .null, .null, .null, .null] [] (I, R, J))) (Q := (fun r : (Unit) ⊕ (Unit) => (zw_se (fun r0 => zy_V X M_X0_liesIn 1 P 129 [.null, .null, .null, .null, .null, .null, .null, .null, .null] [] (I, R, J)) (fun t0 => zy_V X M_X0_liesIn 1 P 115 [.null, .null, .null, .null, .null, .null, .null, .null, .null] [] (I, R, J)) r))) (fun s o h1 h2 => s_X0_liesIn_31_ok X P v0 v1 v2 v3 I R J s o h1 h2) n s r h hq
def f_X0_liesIn (v0 : Nat) (v1 : Nat) (v2 : Int32) (v3 : Int32) (I : zI) (R : zR) : Option (Int32) :=
  zw_g (zw_gc v0 0) (zw_g (zw_gc v1 0) (if (I v1 1) ≤ (v2 + (I v0 6)) then some 0 else if (v3 + (I v0 7)) < (I v1 2) then (zw_it (s_X0_liesIn_31 v0 v1 v2 v3 I R) 1000000 0).bind fun q23 => (match q23 with | .inl a24 => (some 1) | .inr a25 => (some 0)) else some 0))
theorem c_X0_liesIn (X : zw_X) (v0 : Nat) (v1 : Nat) (v2 : Int32) (v3 : Int32) (I : zI) (R : zR) (J : zJ) {P : Option Value → aS → Prop} (o : Int32) (hf : f_X0_liesIn v0 v1 v2 v3 I R = some o) (hk : P (some (.int o)) (I, R, J)) : zw_C X M_X0_liesIn 1 0 0 199 [.ref v0, .ref v1, .int v2, .int v3] (I, R, J) P := by
  show zy_V X M_X0_liesIn 1 P 0 [.ref v0, .ref v1, .int v2, .int v3, .null, .null, .null, .null, .null] [] (I, R, J)
  unfold f_X0_liesIn at hf
  refine zv_iload_n (pc := 0) d_X0_liesIn_0 rfl ?_
  refine zv_aload_n (pc := 1) d_X0_liesIn_1 rfl ?_
  obtain ⟨g1, hf⟩ := zw_gcE hf (by decide)
  refine zx_getI (pc := 2) d_X0_liesIn_2 lk_CutStones_Drawing_31 (by decide) g1 ?_
  refine zv_iadd (pc := 5) d_X0_liesIn_5 ?_
  refine zv_aload_n (pc := 6) d_X0_liesIn_6 rfl ?_
  obtain ⟨g2, hf⟩ := zw_gcE hf (by decide)
  refine zx_getI (pc := 7) d_X0_liesIn_7 lk_CutStones_Drawing_15 (by decide) g2 ?_
  rcases zw_ifE hf with ⟨c3, hf⟩ | ⟨c3, hf⟩
  · refine zv_icmp_ge (pc := 10) (tg := 26) d_X0_liesIn_10 (by decide) (fun _ => ?_) (fun q => absurd c3 q)
    refine zv_iconst (pc := 26) d_X0_liesIn_26 zc_i_0 ?_
    cases hf
    exact zx_zret (pc := 27) d_X0_liesIn_27 rfl (Or.inl rfl) hk
  · refine zv_icmp_ge (pc := 10) (tg := 26) d_X0_liesIn_10 (by decide) (fun q => absurd q c3) (fun _ => ?_)
    refine zv_iload_n (pc := 13) d_X0_liesIn_13 rfl ?_
    refine zv_aload_n (pc := 14) d_X0_liesIn_14 rfl ?_
    refine zx_getI (pc := 15) d_X0_liesIn_15 lk_CutStones_Drawing_34 (by decide) g1 ?_
    refine zv_iadd (pc := 18) d_X0_liesIn_18 ?_
    refine zv_aload_n (pc := 19) d_X0_liesIn_19 rfl ?_
    refine zx_getI (pc := 20) d_X0_liesIn_20 lk_CutStones_Drawing_19 (by decide) g2 ?_
    rcases zw_ifE hf with ⟨c4, hf⟩ | ⟨c4, hf⟩
    · refine zv_icmp_lt (pc := 23) (tg := 28) d_X0_liesIn_23 (by decide) (fun _ => ?_) (fun q => absurd c4 q)
      refine zv_iconst (pc := 28) d_X0_liesIn_28 zc_i_0 ?_
      refine zx_istore (pc := 29) (x2 := 0) (L2 := [.ref v0, .ref v1, .int v2, .int v3, .int 0, .null, .null, .null, .null]) d_X0_liesIn_29 (by decide) rfl rfl ?_
      obtain ⟨q23, hq23, hf⟩ := zw_bdE hf
      refine zx_weak (L' := [.ref v0, .ref v1, .int v2, .int v3, .int 0, .null, .null, .null, .null]) (zw_leS (zw_leS (zw_leS (zw_leS (zw_leS (zw_leN (zw_leN (zw_leN (zw_leN zw_leZ))))))))) (s_X0_liesIn_31_lp X P v0 v1 v2 v3 I R J _ _ _ hq23 ?_)
      rcases q23 with a24 | a25
      ·
        show zy_V X M_X0_liesIn 1 P 129 [.null, .null, .null, .null, .null, .null, .null, .null, .null] [] (I, R, J)
        refine zv_iconst (pc := 129) d_X0_liesIn_129 zc_i_1 ?_
        cases hf
        exact zx_zret (pc := 130) d_X0_liesIn_130 rfl (Or.inr rfl) hk
      ·
        show zy_V X M_X0_liesIn 1 P 115 [.null, .null, .null, .null, .null, .null, .null, .null, .null] [] (I, R, J)
        refine zv_iconst (pc := 115) d_X0_liesIn_115 zc_i_0 ?_
        cases hf
        exact zx_zret (pc := 116) d_X0_liesIn_116 rfl (Or.inl rfl) hk
    · refine zv_icmp_lt (pc := 23) (tg := 28) d_X0_liesIn_23 (by decide) (fun q => absurd q c4) (fun _ => ?_)
      refine zv_iconst (pc := 26) d_X0_liesIn_26 zc_i_0 ?_
      cases hf
      exact zx_zret (pc := 27) d_X0_liesIn_27 rfl (Or.inl rfl) hk
abbrev M_X0_measureUp : zw_M := (⟨"CutStones$Drawing", "measureUp", "()V"⟩, prog_2_method_4_code, 4, (Option.none : Option Jvm.ClassFile.FieldType))
theorem d_X0_measureUp_0 : decode M_X0_measureUp.2.1 0 = .ok (.aload_n 0, 1) := by decide +kernel
theorem d_X0_measureUp_1 : decode M_X0_measureUp.2.1 1 = .ok (.iconst 0, 1) := by decide +kernel
theorem d_X0_measureUp_2 : decode M_X0_measureUp.2.1 2 = .ok (.putfield 22, 3) := by decide +kernel
theorem d_X0_measureUp_5 : decode M_X0_measureUp.2.1 5 = .ok (.aload_n 0, 1) := by decide +kernel
theorem d_X0_measureUp_6 : decode M_X0_measureUp.2.1 6 = .ok (.iconst 0, 1) := by decide +kernel
theorem d_X0_measureUp_7 : decode M_X0_measureUp.2.1 7 = .ok (.putfield 25, 3) := by decide +kernel
theorem d_X0_measureUp_10 : decode M_X0_measureUp.2.1 10 = .ok (.aload_n 0, 1) := by decide +kernel
theorem d_X0_measureUp_11 : decode M_X0_measureUp.2.1 11 = .ok (.bipush 12, 2) := by decide +kernel
theorem d_X0_measureUp_13 : decode M_X0_measureUp.2.1 13 = .ok (.putfield 28, 3) := by decide +kernel
theorem d_X0_measureUp_16 : decode M_X0_measureUp.2.1 16 = .ok (.aload_n 0, 1) := by decide +kernel
theorem d_X0_measureUp_17 : decode M_X0_measureUp.2.1 17 = .ok (.iconst 0, 1) := by decide +kernel
theorem d_X0_measureUp_18 : decode M_X0_measureUp.2.1 18 = .ok (.putfield 31, 3) := by decide +kernel
theorem d_X0_measureUp_21 : decode M_X0_measureUp.2.1 21 = .ok (.aload_n 0, 1) := by decide +kernel
theorem d_X0_measureUp_22 : decode M_X0_measureUp.2.1 22 = .ok (.iconst 0, 1) := by decide +kernel
theorem d_X0_measureUp_23 : decode M_X0_measureUp.2.1 23 = .ok (.putfield 34, 3) := by decide +kernel
theorem d_X0_measureUp_26 : decode M_X0_measureUp.2.1 26 = .ok (.iconst 0, 1) := by decide +kernel
theorem d_X0_measureUp_27 : decode M_X0_measureUp.2.1 27 = .ok (.istore_n 1, 1) := by decide +kernel
theorem d_X0_measureUp_28 : decode M_X0_measureUp.2.1 28 = .ok (.iload_n 1, 1) := by decide +kernel
theorem d_X0_measureUp_29 : decode M_X0_measureUp.2.1 29 = .ok (.aload_n 0, 1) := by decide +kernel
theorem d_X0_measureUp_30 : decode M_X0_measureUp.2.1 30 = .ok (.getfield 19, 3) := by decide +kernel
theorem d_X0_measureUp_33 : decode M_X0_measureUp.2.1 33 = .ok (.if_icmp .ge 91, 3) := by decide +kernel
theorem d_X0_measureUp_36 : decode M_X0_measureUp.2.1 36 = .ok (.iconst 0, 1) := by decide +kernel
theorem d_X0_measureUp_37 : decode M_X0_measureUp.2.1 37 = .ok (.istore_n 2, 1) := by decide +kernel
theorem d_X0_measureUp_38 : decode M_X0_measureUp.2.1 38 = .ok (.iload_n 2, 1) := by decide +kernel
theorem d_X0_measureUp_39 : decode M_X0_measureUp.2.1 39 = .ok (.aload_n 0, 1) := by decide +kernel
theorem d_X0_measureUp_40 : decode M_X0_measureUp.2.1 40 = .ok (.getfield 15, 3) := by decide +kernel
theorem d_X0_measureUp_43 : decode M_X0_measureUp.2.1 43 = .ok (.if_icmp .ge 75, 3) := by decide +kernel
theorem d_X0_measureUp_46 : decode M_X0_measureUp.2.1 46 = .ok (.aload_n 0, 1) := by decide +kernel
theorem d_X0_measureUp_47 : decode M_X0_measureUp.2.1 47 = .ok (.iload_n 2, 1) := by decide +kernel
theorem d_X0_measureUp_48 : decode M_X0_measureUp.2.1 48 = .ok (.iload_n 1, 1) := by decide +kernel
theorem d_X0_measureUp_49 : decode M_X0_measureUp.2.1 49 = .ok (.invokevirtual 52, 3) := by decide +kernel
theorem d_X0_measureUp_52 : decode M_X0_measureUp.2.1 52 = .ok (.istore_n 3, 1) := by decide +kernel
theorem d_X0_measureUp_53 : decode M_X0_measureUp.2.1 53 = .ok (.iload_n 3, 1) := by decide +kernel
theorem d_X0_measureUp_54 : decode M_X0_measureUp.2.1 54 = .ok (.ifCond .eq 58, 3) := by decide +kernel
theorem d_X0_measureUp_57 : decode M_X0_measureUp.2.1 57 = .ok (.aload_n 0, 1) := by decide +kernel
theorem d_X0_measureUp_58 : decode M_X0_measureUp.2.1 58 = .ok (.dup, 1) := by decide +kernel
theorem d_X0_measureUp_59 : decode M_X0_measureUp.2.1 59 = .ok (.getfield 22, 3) := by decide +kernel
theorem d_X0_measureUp_62 : decode M_X0_measureUp.2.1 62 = .ok (.getstatic 55, 3) := by decide +kernel
theorem d_X0_measureUp_65 : decode M_X0_measureUp.2.1 65 = .ok (.iload_n 3, 1) := by decide +kernel
theorem d_X0_measureUp_66 : decode M_X0_measureUp.2.1 66 = .ok (.iaload, 1) := by decide +kernel
theorem d_X0_measureUp_67 : decode M_X0_measureUp.2.1 67 = .ok (.iadd, 1) := by decide +kernel
theorem d_X0_measureUp_68 : decode M_X0_measureUp.2.1 68 = .ok (.putfield 22, 3) := by decide +kernel
theorem d_X0_measureUp_71 : decode M_X0_measureUp.2.1 71 = .ok (.aload_n 0, 1) := by decide +kernel
theorem d_X0_measureUp_72 : decode M_X0_measureUp.2.1 72 = .ok (.dup, 1) := by decide +kernel
theorem d_X0_measureUp_73 : decode M_X0_measureUp.2.1 73 = .ok (.getfield 25, 3) := by decide +kernel
theorem d_X0_measureUp_76 : decode M_X0_measureUp.2.1 76 = .ok (.iconst 1, 1) := by decide +kernel
theorem d_X0_measureUp_77 : decode M_X0_measureUp.2.1 77 = .ok (.iload_n 2, 1) := by decide +kernel
theorem d_X0_measureUp_78 : decode M_X0_measureUp.2.1 78 = .ok (.ishl, 1) := by decide +kernel
theorem d_X0_measureUp_79 : decode M_X0_measureUp.2.1 79 = .ok (.ior, 1) := by decide +kernel
theorem d_X0_measureUp_80 : decode M_X0_measureUp.2.1 80 = .ok (.putfield 25, 3) := by decide +kernel
theorem d_X0_measureUp_83 : decode M_X0_measureUp.2.1 83 = .ok (.aload_n 0, 1) := by decide +kernel
theorem d_X0_measureUp_84 : decode M_X0_measureUp.2.1 84 = .ok (.aload_n 0, 1) := by decide +kernel
theorem d_X0_measureUp_85 : decode M_X0_measureUp.2.1 85 = .ok (.getfield 28, 3) := by decide +kernel
theorem d_X0_measureUp_88 : decode M_X0_measureUp.2.1 88 = .ok (.iload_n 2, 1) := by decide +kernel
theorem d_X0_measureUp_89 : decode M_X0_measureUp.2.1 89 = .ok (.invokestatic 37, 3) := by decide +kernel
theorem d_X0_measureUp_92 : decode M_X0_measureUp.2.1 92 = .ok (.putfield 28, 3) := by decide +kernel
theorem d_X0_measureUp_95 : decode M_X0_measureUp.2.1 95 = .ok (.aload_n 0, 1) := by decide +kernel
theorem d_X0_measureUp_96 : decode M_X0_measureUp.2.1 96 = .ok (.aload_n 0, 1) := by decide +kernel
theorem d_X0_measureUp_97 : decode M_X0_measureUp.2.1 97 = .ok (.getfield 31, 3) := by decide +kernel
theorem d_X0_measureUp_100 : decode M_X0_measureUp.2.1 100 = .ok (.iload_n 2, 1) := by decide +kernel
theorem d_X0_measureUp_101 : decode M_X0_measureUp.2.1 101 = .ok (.invokestatic 58, 3) := by decide +kernel
theorem d_X0_measureUp_104 : decode M_X0_measureUp.2.1 104 = .ok (.putfield 31, 3) := by decide +kernel
theorem d_X0_measureUp_107 : decode M_X0_measureUp.2.1 107 = .ok (.aload_n 0, 1) := by decide +kernel
theorem d_X0_measureUp_108 : decode M_X0_measureUp.2.1 108 = .ok (.iload_n 1, 1) := by decide +kernel
theorem d_X0_measureUp_109 : decode M_X0_measureUp.2.1 109 = .ok (.putfield 34, 3) := by decide +kernel
theorem d_X0_measureUp_112 : decode M_X0_measureUp.2.1 112 = .ok (.iinc 2 1, 3) := by decide +kernel
theorem d_X0_measureUp_115 : decode M_X0_measureUp.2.1 115 = .ok (.goto (-77), 3) := by decide +kernel
theorem d_X0_measureUp_118 : decode M_X0_measureUp.2.1 118 = .ok (.iinc 1 1, 3) := by decide +kernel
theorem d_X0_measureUp_121 : decode M_X0_measureUp.2.1 121 = .ok (.goto (-93), 3) := by decide +kernel
theorem d_X0_measureUp_124 : decode M_X0_measureUp.2.1 124 = .ok (.return_, 1) := by decide +kernel
theorem ce_X0_measureUp : zw_CeV M_X0_measureUp 0 := ⟨⟨⟨by decide +kernel, by decide +kernel, by decide +kernel⟩, (zw_mG (List.mem_of_getElem? (i := 753) (by decide +kernel)) rfl), (zw_mG (List.mem_of_getElem? (i := 101) (by decide +kernel)) rfl), by decide, by decide +kernel⟩, (zw_mG (List.mem_of_getElem? (i := 751) (by decide +kernel)) rfl), (zw_mG (List.mem_of_getElem? (i := 752) (by decide +kernel)) rfl)⟩
def j_X0_measureUp_112_38 (v0 : Nat) (v1 : Int32) (v2 : Int32) (I : zI) (R : zR) : Option ((Int32 × zI) ⊕ (zI)) :=
  zw_let (v2 + 1 : Int32) fun x13 => (some (.inl (x13, I)))
theorem j_X0_measureUp_112_38_ok (X : zw_X) (P : Option Value → aS → Prop) (v0 : Nat) (v1 : Int32) (v2 : Int32) (I : zI) (R : zR) (J : zJ) (o : (Int32 × zI) ⊕ (zI)) (hf : j_X0_measureUp_112_38 v0 v1 v2 I R = some o) (hk : (zw_se (fun t => zy_V X M_X0_measureUp 1 P 38 [.ref v0, .int v1, .int t.1, .null] [] (t.2, R, J)) (fun r => zy_V X M_X0_measureUp 1 P 118 [.ref v0, .int v1, .null, .null] [] (r, R, J)) o)) : zy_V X M_X0_measureUp 1 P 112 [.ref v0, .int v1, .int v2, .null] [] (I, R, J) := by
  unfold j_X0_measureUp_112_38 at hf
  obtain ⟨x13, ex13, hf⟩ := zw_letE hf
  refine zx_iinc (pc := 112) (x2 := x13) (L2 := [.ref v0, .int v1, .int x13, .null]) d_X0_measureUp_112 (by decide) rfl zc_i_1 ex13 rfl ?_
  refine zv_goto (pc := 115) (tg := 38) d_X0_measureUp_115 (by decide) ?_
  cases hf
  exact zx_weak (zw_leS (zw_leS (zw_leS (zw_leN zw_leZ)))) hk
def s_X0_measureUp_38 (v0 : Nat) (v1 : Int32) (R : zR) (s : Int32 × zI) : Option ((Int32 × zI) ⊕ (zI)) :=
  zw_g (zw_gc v0 0) (if (s.2 v0 1) ≤ s.1 then some (.inr s.2) else (f_X0_cellAt v0 s.1 v1 s.2 R).bind fun q11 => (if q11 = 0 then j_X0_measureUp_112_38 v0 v1 s.1 s.2 R else zw_g (zw_in q11 (zw_sl 5).length) (zw_let (zw_u s.2 v0 3 ((s.2 v0 3) + ((zw_sl 5).getD (Int32.toNatClampNeg q11) 0)) : zI) fun I15 => (zw_let (zw_u I15 v0 4 ((I15 v0 4) ||| (1 <<< (s.1 &&& 31))) : zI) fun I16 => (zw_let ((if s.1 < (I16 v0 5) then s.1 else (I16 v0 5)) : Int32) fun x17 => (zw_let (zw_u I16 v0 5 x17 : zI) fun I18 => (zw_let ((if (I18 v0 6) < s.1 then s.1 else (I18 v0 6)) : Int32) fun x19 => (zw_let (zw_u I18 v0 6 x19 : zI) fun I20 => (zw_let (zw_u I20 v0 7 v1 : zI) fun I21 => (j_X0_measureUp_112_38 v0 v1 s.1 I21 R))))))))))
theorem s_X0_measureUp_38_ok (X : zw_X) (P : Option Value → aS → Prop) (v0 : Nat) (v1 : Int32) (R : zR) (J : zJ) (s : Int32 × zI) (o : (Int32 × zI) ⊕ (zI)) (hf : s_X0_measureUp_38 v0 v1 R s = some o) (hk : (zw_se (fun t => zy_V X M_X0_measureUp 1 P 38 [.ref v0, .int v1, .int t.1, .null] [] (t.2, R, J)) (fun r => zy_V X M_X0_measureUp 1 P 118 [.ref v0, .int v1, .null, .null] [] (r, R, J)) o)) : zy_V X M_X0_measureUp 1 P 38 [.ref v0, .int v1, .int s.1, .null] [] (s.2, R, J) := by
  unfold s_X0_measureUp_38 at hf
  refine zv_iload_n (pc := 38) d_X0_measureUp_38 rfl ?_
  refine zv_aload_n (pc := 39) d_X0_measureUp_39 rfl ?_
  obtain ⟨g9, hf⟩ := zw_gcE hf (by decide)
  refine zx_getI (pc := 40) d_X0_measureUp_40 lk_CutStones_Drawing_15 (by decide) g9 ?_
  rcases zw_ifE hf with ⟨c10, hf⟩ | ⟨c10, hf⟩
  · refine zv_icmp_ge (pc := 43) (tg := 118) d_X0_measureUp_43 (by decide) (fun _ => ?_) (fun q => absurd c10 q)
    cases hf
    exact zx_weak (zw_leS (zw_leS (zw_leN (zw_leN zw_leZ)))) hk
  · refine zv_icmp_ge (pc := 43) (tg := 118) d_X0_measureUp_43 (by decide) (fun q => absurd q c10) (fun _ => ?_)
    refine zv_aload_n (pc := 46) d_X0_measureUp_46 rfl ?_
    refine zv_iload_n (pc := 47) d_X0_measureUp_47 rfl ?_
    refine zv_iload_n (pc := 48) d_X0_measureUp_48 rfl ?_
    obtain ⟨q11, hq11, hf⟩ := zw_bdE hf
    refine zx_callV (pc := 49) (As := [.int s.1, .int v1]) (o := v0) (st := []) (d2 := 0) (M2 := M_X0_cellAt) (P2 := (fun r S => r = (some (.int q11)) ∧ S = (s.2, R, J))) d_X0_measureUp_49 (zw_mG (List.mem_of_getElem? (i := 754) (by decide +kernel)) rfl) ce_X0_cellAt (zw_RvK g9 rfl rfl) (Nat.le_of_ble_eq_true rfl) rfl (Nat.le_of_ble_eq_true rfl) (by decide) (c_X0_cellAt X v0 s.1 v1 s.2 R J _ hq11 ⟨rfl, rfl⟩) ?_
    rintro _ _ ⟨rfl, rfl⟩
    show zy_V X M_X0_measureUp 1 P (49 + 3) [.ref v0, .int v1, .int s.1, .null] [.int q11] (s.2, R, J)
    refine zx_istore_n (pc := 52) (x2 := q11) (L2 := [.ref v0, .int v1, .int s.1, .int q11]) d_X0_measureUp_52 (by decide) rfl rfl ?_
    refine zv_iload_n (pc := 53) d_X0_measureUp_53 rfl ?_
    rcases zw_ifE hf with ⟨c12, hf⟩ | ⟨c12, hf⟩
    · refine zv_if_eq (pc := 54) (tg := 112) d_X0_measureUp_54 (by decide) (fun _ => ?_) (fun q => absurd c12 q)
      exact zx_weak (zw_leS (zw_leS (zw_leS (zw_leN zw_leZ)))) (j_X0_measureUp_112_38_ok X P v0 v1 s.1 s.2 R J _ hf hk)
    · refine zv_if_eq (pc := 54) (tg := 112) d_X0_measureUp_54 (by decide) (fun q => absurd q c12) (fun _ => ?_)
      refine zv_aload_n (pc := 57) d_X0_measureUp_57 rfl ?_
      refine zv_dup (pc := 58) d_X0_measureUp_58 rfl ?_
      refine zx_getI (pc := 59) d_X0_measureUp_59 lk_CutStones_Drawing_22 (by decide) g9 ?_
      refine zv_gets (pc := 62) (a := 5) d_X0_measureUp_62 (by decide) (by decide +kernel) ?_
      refine zv_iload_n (pc := 65) d_X0_measureUp_65 rfl ?_
      obtain ⟨i14, hf⟩ := zw_inE hf
      refine zv_tald (pc := 66) d_X0_measureUp_66 (by decide) i14 ?_
      refine zv_iadd (pc := 67) d_X0_measureUp_67 ?_
      obtain ⟨I15, eI15, hf⟩ := zw_letE hf
      refine zx_putI (pc := 68) (I2 := I15) d_X0_measureUp_68 lk_CutStones_Drawing_22 rfl g9 eI15 ?_
      refine zv_aload_n (pc := 71) d_X0_measureUp_71 rfl ?_
      refine zv_dup (pc := 72) d_X0_measureUp_72 rfl ?_
      refine zx_getI (pc := 73) d_X0_measureUp_73 lk_CutStones_Drawing_25 (by decide) g9 ?_
      refine zv_iconst (pc := 76) d_X0_measureUp_76 zc_i_1 ?_
      refine zv_iload_n (pc := 77) d_X0_measureUp_77 rfl ?_
      refine zv_ishl (pc := 78) d_X0_measureUp_78 ?_
      refine zv_ior (pc := 79) d_X0_measureUp_79 ?_
      obtain ⟨I16, eI16, hf⟩ := zw_letE hf
      refine zx_putI (pc := 80) (I2 := I16) d_X0_measureUp_80 lk_CutStones_Drawing_25 rfl g9 eI16 ?_
      refine zv_aload_n (pc := 83) d_X0_measureUp_83 rfl ?_
      refine zv_aload_n (pc := 84) d_X0_measureUp_84 rfl ?_
      refine zx_getI (pc := 85) d_X0_measureUp_85 lk_CutStones_Drawing_28 (by decide) g9 ?_
      refine zv_iload_n (pc := 88) d_X0_measureUp_88 rfl ?_
      refine zv_min (pc := 89) d_X0_measureUp_89 (zw_mG (List.mem_of_getElem? (i := 743) (by decide +kernel)) rfl) (by decide) (Nat.le_of_ble_eq_true rfl) ⟨Nat.le_refl _, Nat.le_refl _⟩ ?_
      obtain ⟨x17, ex17, hf⟩ := zw_letE hf
      rw [← ex17]
      obtain ⟨I18, eI18, hf⟩ := zw_letE hf
      refine zx_putI (pc := 92) (I2 := I18) d_X0_measureUp_92 lk_CutStones_Drawing_28 rfl g9 eI18 ?_
      refine zv_aload_n (pc := 95) d_X0_measureUp_95 rfl ?_
      refine zv_aload_n (pc := 96) d_X0_measureUp_96 rfl ?_
      refine zx_getI (pc := 97) d_X0_measureUp_97 lk_CutStones_Drawing_31 (by decide) g9 ?_
      refine zv_iload_n (pc := 100) d_X0_measureUp_100 rfl ?_
      refine zv_max (pc := 101) d_X0_measureUp_101 (zw_mG (List.mem_of_getElem? (i := 760) (by decide +kernel)) rfl) (by decide) (Nat.le_of_ble_eq_true rfl) ⟨Nat.le_refl _, Nat.le_refl _⟩ ?_
      obtain ⟨x19, ex19, hf⟩ := zw_letE hf
      rw [← ex19]
      obtain ⟨I20, eI20, hf⟩ := zw_letE hf
      refine zx_putI (pc := 104) (I2 := I20) d_X0_measureUp_104 lk_CutStones_Drawing_31 rfl g9 eI20 ?_
      refine zv_aload_n (pc := 107) d_X0_measureUp_107 rfl ?_
      refine zv_iload_n (pc := 108) d_X0_measureUp_108 rfl ?_
      obtain ⟨I21, eI21, hf⟩ := zw_letE hf
      refine zx_putI (pc := 109) (I2 := I21) d_X0_measureUp_109 lk_CutStones_Drawing_34 rfl g9 eI21 ?_
      exact zx_weak (zw_leS (zw_leS (zw_leS (zw_leN zw_leZ)))) (j_X0_measureUp_112_38_ok X P v0 v1 s.1 I21 R J _ hf hk)
theorem s_X0_measureUp_38_lp (X : zw_X) (P : Option Value → aS → Prop) (v0 : Nat) (v1 : Int32) (R : zR) (J : zJ) (n : Nat) (s : Int32 × zI) (r : zI) (h : zw_it (s_X0_measureUp_38 v0 v1 R) n s = some r) (hq : zy_V X M_X0_measureUp 1 P 118 [.ref v0, .int v1, .null, .null] [] (r, R, J)) : zy_V X M_X0_measureUp 1 P 38 [.ref v0, .int v1, .int s.1, .null] [] (s.2, R, J) :=
  zw_itE (A := (fun t : Int32 × zI => zy_V X M_X0_measureUp 1 P 38 [.ref v0, .int v1, .int t.1, .null] [] (t.2, R, J))) (Q := (fun r : zI => zy_V X M_X0_measureUp 1 P 118 [.ref v0, .int v1, .null, .null] [] (r, R, J))) (fun s o h1 h2 => s_X0_measureUp_38_ok X P v0 v1 R J s o h1 h2) n s r h hq
def s_X0_measureUp_28 (v0 : Nat) (R : zR) (s : Int32 × zI) : Option ((Int32 × zI) ⊕ (zI)) :=
  zw_g (zw_gc v0 0) (if (s.2 v0 2) ≤ s.1 then some (.inr s.2) else (zw_it (s_X0_measureUp_38 v0 s.1 R) 1000000 (0, s.2)).bind fun q22 => (zw_let (s.1 + 1 : Int32) fun x23 => (some (.inl (x23, q22)))))
theorem s_X0_measureUp_28_ok (X : zw_X) (P : Option Value → aS → Prop) (v0 : Nat) (R : zR) (J : zJ) (s : Int32 × zI) (o : (Int32 × zI) ⊕ (zI)) (hf : s_X0_measureUp_28 v0 R s = some o) (hk : (zw_se (fun t => zy_V X M_X0_measureUp 1 P 28 [.ref v0, .int t.1, .null, .null] [] (t.2, R, J)) (fun r => zy_V X M_X0_measureUp 1 P 124 [.null, .null, .null, .null] [] (r, R, J)) o)) : zy_V X M_X0_measureUp 1 P 28 [.ref v0, .int s.1, .null, .null] [] (s.2, R, J) := by
  unfold s_X0_measureUp_28 at hf
  refine zv_iload_n (pc := 28) d_X0_measureUp_28 rfl ?_
  refine zv_aload_n (pc := 29) d_X0_measureUp_29 rfl ?_
  obtain ⟨g7, hf⟩ := zw_gcE hf (by decide)
  refine zx_getI (pc := 30) d_X0_measureUp_30 lk_CutStones_Drawing_19 (by decide) g7 ?_
  rcases zw_ifE hf with ⟨c8, hf⟩ | ⟨c8, hf⟩
  · refine zv_icmp_ge (pc := 33) (tg := 124) d_X0_measureUp_33 (by decide) (fun _ => ?_) (fun q => absurd c8 q)
    cases hf
    exact zx_weak (zw_leN (zw_leN (zw_leN (zw_leN zw_leZ)))) hk
  · refine zv_icmp_ge (pc := 33) (tg := 124) d_X0_measureUp_33 (by decide) (fun q => absurd q c8) (fun _ => ?_)
    refine zv_iconst (pc := 36) d_X0_measureUp_36 zc_i_0 ?_
    refine zx_istore_n (pc := 37) (x2 := 0) (L2 := [.ref v0, .int s.1, .int 0, .null]) d_X0_measureUp_37 (by decide) rfl rfl ?_
    obtain ⟨q22, hq22, hf⟩ := zw_bdE hf
    refine zx_weak (L' := [.ref v0, .int s.1, .int 0, .null]) (zw_leS (zw_leS (zw_leS (zw_leN zw_leZ)))) (s_X0_measureUp_38_lp X P v0 s.1 R J _ _ _ hq22 ?_)
    show zy_V X M_X0_measureUp 1 P 118 [.ref v0, .int s.1, .null, .null] [] (q22, R, J)
    obtain ⟨x23, ex23, hf⟩ := zw_letE hf
    refine zx_iinc (pc := 118) (x2 := x23) (L2 := [.ref v0, .int x23, .null, .null]) d_X0_measureUp_118 (by decide) rfl zc_i_1 ex23 rfl ?_
    refine zv_goto (pc := 121) (tg := 28) d_X0_measureUp_121 (by decide) ?_
    cases hf
    exact zx_weak (zw_leS (zw_leS (zw_leN (zw_leN zw_leZ)))) hk
theorem s_X0_measureUp_28_lp (X : zw_X) (P : Option Value → aS → Prop) (v0 : Nat) (R : zR) (J : zJ) (n : Nat) (s : Int32 × zI) (r : zI) (h : zw_it (s_X0_measureUp_28 v0 R) n s = some r) (hq : zy_V X M_X0_measureUp 1 P 124 [.null, .null, .null, .null] [] (r, R, J)) : zy_V X M_X0_measureUp 1 P 28 [.ref v0, .int s.1, .null, .null] [] (s.2, R, J) :=
  zw_itE (A := (fun t : Int32 × zI => zy_V X M_X0_measureUp 1 P 28 [.ref v0, .int t.1, .null, .null] [] (t.2, R, J))) (Q := (fun r : zI => zy_V X M_X0_measureUp 1 P 124 [.null, .null, .null, .null] [] (r, R, J))) (fun s o h1 h2 => s_X0_measureUp_28_ok X P v0 R J s o h1 h2) n s r h hq
def f_X0_measureUp (v0 : Nat) (I : zI) (R : zR) : Option (zI) :=
  zw_g (zw_gc v0 0) (zw_let (zw_u I v0 3 0 : zI) fun I2 => (zw_let (zw_u I2 v0 4 0 : zI) fun I3 => (zw_let (zw_u I3 v0 5 12 : zI) fun I4 => (zw_let (zw_u I4 v0 6 0 : zI) fun I5 => (zw_let (zw_u I5 v0 7 0 : zI) fun I6 => ((zw_it (s_X0_measureUp_28 v0 R) 1000000 (0, I6)).bind fun q24 => (some q24)))))))
theorem c_X0_measureUp (X : zw_X) (v0 : Nat) (I : zI) (R : zR) (J : zJ) {P : Option Value → aS → Prop} (o : zI) (hf : f_X0_measureUp v0 I R = some o) (hk : P none (o, R, J)) : zw_C X M_X0_measureUp 1 0 0 199 [.ref v0] (I, R, J) P := by
  show zy_V X M_X0_measureUp 1 P 0 [.ref v0, .null, .null, .null] [] (I, R, J)
  unfold f_X0_measureUp at hf
  refine zv_aload_n (pc := 0) d_X0_measureUp_0 rfl ?_
  refine zv_iconst (pc := 1) d_X0_measureUp_1 zc_i_0 ?_
  obtain ⟨g1, hf⟩ := zw_gcE hf (by decide)
  obtain ⟨I2, eI2, hf⟩ := zw_letE hf
  refine zx_putI (pc := 2) (I2 := I2) d_X0_measureUp_2 lk_CutStones_Drawing_22 rfl g1 eI2 ?_
  refine zv_aload_n (pc := 5) d_X0_measureUp_5 rfl ?_
  refine zv_iconst (pc := 6) d_X0_measureUp_6 zc_i_0 ?_
  obtain ⟨I3, eI3, hf⟩ := zw_letE hf
  refine zx_putI (pc := 7) (I2 := I3) d_X0_measureUp_7 lk_CutStones_Drawing_25 rfl g1 eI3 ?_
  refine zv_aload_n (pc := 10) d_X0_measureUp_10 rfl ?_
  refine zv_bipush (pc := 11) d_X0_measureUp_11 zc_b_12 ?_
  obtain ⟨I4, eI4, hf⟩ := zw_letE hf
  refine zx_putI (pc := 13) (I2 := I4) d_X0_measureUp_13 lk_CutStones_Drawing_28 rfl g1 eI4 ?_
  refine zv_aload_n (pc := 16) d_X0_measureUp_16 rfl ?_
  refine zv_iconst (pc := 17) d_X0_measureUp_17 zc_i_0 ?_
  obtain ⟨I5, eI5, hf⟩ := zw_letE hf
  refine zx_putI (pc := 18) (I2 := I5) d_X0_measureUp_18 lk_CutStones_Drawing_31 rfl g1 eI5 ?_
  refine zv_aload_n (pc := 21) d_X0_measureUp_21 rfl ?_
  refine zv_iconst (pc := 22) d_X0_measureUp_22 zc_i_0 ?_
  obtain ⟨I6, eI6, hf⟩ := zw_letE hf
  refine zx_putI (pc := 23) (I2 := I6) d_X0_measureUp_23 lk_CutStones_Drawing_34 rfl g1 eI6 ?_
  refine zv_iconst (pc := 26) d_X0_measureUp_26 zc_i_0 ?_
  refine zx_istore_n (pc := 27) (x2 := 0) (L2 := [.ref v0, .int 0, .null, .null]) d_X0_measureUp_27 (by decide) rfl rfl ?_
  obtain ⟨q24, hq24, hf⟩ := zw_bdE hf
  refine zx_weak (L' := [.ref v0, .int 0, .null, .null]) (zw_leS (zw_leS (zw_leN (zw_leN zw_leZ)))) (s_X0_measureUp_28_lp X P v0 R J _ _ _ hq24 ?_)
  show zy_V X M_X0_measureUp 1 P 124 [.null, .null, .null, .null] [] (q24, R, J)
  cases hf
  exact zx_vret (pc := 124) d_X0_measureUp_124 rfl hk
abbrev M_X10_annul : zw_M := (⟨"CutStones", "annul", "(I)I"⟩, prog_1_method_23_code, 2, (Option.some Jvm.ClassFile.FieldType.int))
theorem d_X10_annul_0 : decode M_X10_annul.2.1 0 = .ok (.aload_n 0, 1) := by decide +kernel
theorem d_X10_annul_1 : decode M_X10_annul.2.1 1 = .ok (.getfield 71, 3) := by decide +kernel
theorem d_X10_annul_4 : decode M_X10_annul.2.1 4 = .ok (.iload_n 1, 1) := by decide +kernel
theorem d_X10_annul_5 : decode M_X10_annul.2.1 5 = .ok (.invokevirtual 240, 3) := by decide +kernel
theorem d_X10_annul_8 : decode M_X10_annul.2.1 8 = .ok (.ireturn, 1) := by decide +kernel
theorem ce_X10_annul : zw_CeV M_X10_annul 1 := ⟨⟨⟨by decide +kernel, by decide +kernel, by decide +kernel⟩, (zw_mG (List.mem_of_getElem? (i := 1085) (by decide +kernel)) rfl), (zw_mG (List.mem_of_getElem? (i := 96) (by decide +kernel)) rfl), by decide, by decide +kernel⟩, (zw_mG (List.mem_of_getElem? (i := 1083) (by decide +kernel)) rfl), (zw_mG (List.mem_of_getElem? (i := 1084) (by decide +kernel)) rfl)⟩
def f_X10_annul (v0 : Nat) (v1 : Int32) (I : zI) (R : zR) : Option (Int32 × zI) :=
  zw_g (zw_gc v0 10) (zw_g (zw_gc (R v0 11) 9) ((f_X9_addVoid (R v0 11) v1 I R).bind fun q3 => (some (q3.1, q3.2))))
theorem c_X10_annul (X : zw_X) (v0 : Nat) (v1 : Int32) (I : zI) (R : zR) (J : zJ) {P : Option Value → aS → Prop} (o : Int32 × zI) (hf : f_X10_annul v0 v1 I R = some o) (hk : P (some (.int o.1)) (o.2, R, J)) : zw_C X M_X10_annul 1 0 0 199 [.ref v0, .int v1] (I, R, J) P := by
  show zy_V X M_X10_annul 1 P 0 [.ref v0, .int v1] [] (I, R, J)
  unfold f_X10_annul at hf
  refine zv_aload_n (pc := 0) d_X10_annul_0 rfl ?_
  obtain ⟨g1, hf⟩ := zw_gcE hf (by decide)
  obtain ⟨g2, hf⟩ := zw_gcE hf (by decide)
  refine zx_getR (pc := 1) d_X10_annul_1 lk_CutStones_71 (by decide) g1 g2 ?_
  refine zv_iload_n (pc := 4) d_X10_annul_4 rfl ?_
  obtain ⟨q3, hq3, hf⟩ := zw_bdE hf
  refine zx_callV (pc := 5) (As := [.int v1]) (o := (R v0 11)) (st := []) (d2 := 0) (M2 := M_X9_addVoid) (P2 := (fun r S => r = (some (.int q3.1)) ∧ S = (q3.2, R, J))) d_X10_annul_5 (zw_mG (List.mem_of_getElem? (i := 1086) (by decide +kernel)) rfl) ce_X9_addVoid (zw_RvK g2 rfl rfl) (Nat.le_of_ble_eq_true rfl) rfl (Nat.le_of_ble_eq_true rfl) (by decide) (c_X9_addVoid X (R v0 11) v1 I R J _ hq3 ⟨rfl, rfl⟩) ?_
  rintro _ _ ⟨rfl, rfl⟩
  show zy_V X M_X10_annul 1 P (5 + 3) [.ref v0, .int v1] [.int q3.1] (q3.2, R, J)
  cases hf
  exact zx_iret (pc := 8) d_X10_annul_8 rfl hk
abbrev M_X10_feed : zw_M := (⟨"CutStones", "feed", "(IIIII)I"⟩, prog_1_method_2_code, 6, (Option.some Jvm.ClassFile.FieldType.int))
theorem d_X10_feed_0 : decode M_X10_feed.2.1 0 = .ok (.aload_n 0, 1) := by decide +kernel
theorem d_X10_feed_1 : decode M_X10_feed.2.1 1 = .ok (.getfield 10, 3) := by decide +kernel
theorem d_X10_feed_4 : decode M_X10_feed.2.1 4 = .ok (.getfield 88, 3) := by decide +kernel
theorem d_X10_feed_7 : decode M_X10_feed.2.1 7 = .ok (.bipush 20, 2) := by decide +kernel
theorem d_X10_feed_9 : decode M_X10_feed.2.1 9 = .ok (.iadd, 1) := by decide +kernel
theorem d_X10_feed_10 : decode M_X10_feed.2.1 10 = .ok (.sipush 2000, 3) := by decide +kernel
theorem d_X10_feed_13 : decode M_X10_feed.2.1 13 = .ok (.if_icmp .le 5, 3) := by decide +kernel
theorem d_X10_feed_16 : decode M_X10_feed.2.1 16 = .ok (.iconst (-1), 1) := by decide +kernel
theorem d_X10_feed_17 : decode M_X10_feed.2.1 17 = .ok (.ireturn, 1) := by decide +kernel
theorem d_X10_feed_18 : decode M_X10_feed.2.1 18 = .ok (.aload_n 0, 1) := by decide +kernel
theorem d_X10_feed_19 : decode M_X10_feed.2.1 19 = .ok (.getfield 10, 3) := by decide +kernel
theorem d_X10_feed_22 : decode M_X10_feed.2.1 22 = .ok (.iload_n 1, 1) := by decide +kernel
theorem d_X10_feed_23 : decode M_X10_feed.2.1 23 = .ok (.invokevirtual 92, 3) := by decide +kernel
theorem d_X10_feed_26 : decode M_X10_feed.2.1 26 = .ok (.aload_n 0, 1) := by decide +kernel
theorem d_X10_feed_27 : decode M_X10_feed.2.1 27 = .ok (.getfield 10, 3) := by decide +kernel
theorem d_X10_feed_30 : decode M_X10_feed.2.1 30 = .ok (.iload_n 2, 1) := by decide +kernel
theorem d_X10_feed_31 : decode M_X10_feed.2.1 31 = .ok (.invokevirtual 92, 3) := by decide +kernel
theorem d_X10_feed_34 : decode M_X10_feed.2.1 34 = .ok (.aload_n 0, 1) := by decide +kernel
theorem d_X10_feed_35 : decode M_X10_feed.2.1 35 = .ok (.getfield 10, 3) := by decide +kernel
theorem d_X10_feed_38 : decode M_X10_feed.2.1 38 = .ok (.iload_n 3, 1) := by decide +kernel
theorem d_X10_feed_39 : decode M_X10_feed.2.1 39 = .ok (.invokevirtual 92, 3) := by decide +kernel
theorem d_X10_feed_42 : decode M_X10_feed.2.1 42 = .ok (.aload_n 0, 1) := by decide +kernel
theorem d_X10_feed_43 : decode M_X10_feed.2.1 43 = .ok (.getfield 10, 3) := by decide +kernel
theorem d_X10_feed_46 : decode M_X10_feed.2.1 46 = .ok (.iload 4, 2) := by decide +kernel
theorem d_X10_feed_48 : decode M_X10_feed.2.1 48 = .ok (.invokevirtual 92, 3) := by decide +kernel
theorem d_X10_feed_51 : decode M_X10_feed.2.1 51 = .ok (.aload_n 0, 1) := by decide +kernel
theorem d_X10_feed_52 : decode M_X10_feed.2.1 52 = .ok (.getfield 10, 3) := by decide +kernel
theorem d_X10_feed_55 : decode M_X10_feed.2.1 55 = .ok (.iload 5, 2) := by decide +kernel
theorem d_X10_feed_57 : decode M_X10_feed.2.1 57 = .ok (.invokevirtual 92, 3) := by decide +kernel
theorem d_X10_feed_60 : decode M_X10_feed.2.1 60 = .ok (.aload_n 0, 1) := by decide +kernel
theorem d_X10_feed_61 : decode M_X10_feed.2.1 61 = .ok (.getfield 10, 3) := by decide +kernel
theorem d_X10_feed_64 : decode M_X10_feed.2.1 64 = .ok (.getfield 88, 3) := by decide +kernel
theorem d_X10_feed_67 : decode M_X10_feed.2.1 67 = .ok (.ireturn, 1) := by decide +kernel
theorem ce_X10_feed : zw_CeV M_X10_feed 5 := ⟨⟨⟨by decide +kernel, by decide +kernel, by decide +kernel⟩, (zw_mG (List.mem_of_getElem? (i := 524) (by decide +kernel)) rfl), (zw_mG (List.mem_of_getElem? (i := 96) (by decide +kernel)) rfl), by decide, by decide +kernel⟩, (zw_mG (List.mem_of_getElem? (i := 522) (by decide +kernel)) rfl), (zw_mG (List.mem_of_getElem? (i := 523) (by decide +kernel)) rfl)⟩
def f_X10_feed (v0 : Nat) (v1 : Int32) (v2 : Int32) (v3 : Int32) (v4 : Int32) (v5 : Int32) (I : zI) (R : zR) : Option (Int32 × zI) :=
  zw_g (zw_gc v0 10) (zw_g (zw_gc (R v0 0) 8) (if ((I (R v0 0) 1) + 20) ≤ 2000 then (f_X8_append (R v0 0) v1 I R).bind fun q4 => ((f_X8_append (R v0 0) v2 q4 R).bind fun q5 => ((f_X8_append (R v0 0) v3 q5 R).bind fun q6 => ((f_X8_append (R v0 0) v4 q6 R).bind fun q7 => ((f_X8_append (R v0 0) v5 q7 R).bind fun q8 => (some ((q8 (R v0 0) 1), q8)))))) else some ((-1), I)))
theorem c_X10_feed (X : zw_X) (v0 : Nat) (v1 : Int32) (v2 : Int32) (v3 : Int32) (v4 : Int32) (v5 : Int32) (I : zI) (R : zR) (J : zJ) {P : Option Value → aS → Prop} (o : Int32 × zI) (hf : f_X10_feed v0 v1 v2 v3 v4 v5 I R = some o) (hk : P (some (.int o.1)) (o.2, R, J)) : zw_C X M_X10_feed 1 0 0 199 [.ref v0, .int v1, .int v2, .int v3, .int v4, .int v5] (I, R, J) P := by
  show zy_V X M_X10_feed 1 P 0 [.ref v0, .int v1, .int v2, .int v3, .int v4, .int v5] [] (I, R, J)
  unfold f_X10_feed at hf
  refine zv_aload_n (pc := 0) d_X10_feed_0 rfl ?_
  obtain ⟨g1, hf⟩ := zw_gcE hf (by decide)
  obtain ⟨g2, hf⟩ := zw_gcE hf (by decide)
  refine zx_getR (pc := 1) d_X10_feed_1 lk_CutStones_10 (by decide) g1 g2 ?_
  refine zx_getI (pc := 4) d_X10_feed_4 lk_CutStones_88 (by decide) g2 ?_
  refine zv_bipush (pc := 7) d_X10_feed_7 zc_b_20 ?_
  refine zv_iadd (pc := 9) d_X10_feed_9 ?_
  refine zv_sipush (pc := 10) d_X10_feed_10 zc_s_2000 ?_
  rcases zw_ifE hf with ⟨c3, hf⟩ | ⟨c3, hf⟩
  · refine zv_icmp_le (pc := 13) (tg := 18) d_X10_feed_13 (by decide) (fun _ => ?_) (fun q => absurd c3 q)
    refine zv_aload_n (pc := 18) d_X10_feed_18 rfl ?_
    refine zx_getR (pc := 19) d_X10_feed_19 lk_CutStones_10 (by decide) g1 g2 ?_
    refine zv_iload_n (pc := 22) d_X10_feed_22 rfl ?_
    obtain ⟨q4, hq4, hf⟩ := zw_bdE hf
    refine zx_callV (pc := 23) (As := [.int v1]) (o := (R v0 0)) (st := []) (d2 := 0) (M2 := M_X8_append) (P2 := (fun r S => r = none ∧ S = (q4, R, J))) d_X10_feed_23 (zw_mG (List.mem_of_getElem? (i := 525) (by decide +kernel)) rfl) ce_X8_append (zw_RvK g2 rfl rfl) (Nat.le_of_ble_eq_true rfl) rfl (Nat.le_of_ble_eq_true rfl) (by decide) (c_X8_append X (R v0 0) v1 I R J _ hq4 ⟨rfl, rfl⟩) ?_
    rintro _ _ ⟨rfl, rfl⟩
    show zy_V X M_X10_feed 1 P (23 + 3) [.ref v0, .int v1, .int v2, .int v3, .int v4, .int v5] [] (q4, R, J)
    refine zv_aload_n (pc := 26) d_X10_feed_26 rfl ?_
    refine zx_getR (pc := 27) d_X10_feed_27 lk_CutStones_10 (by decide) g1 g2 ?_
    refine zv_iload_n (pc := 30) d_X10_feed_30 rfl ?_
    obtain ⟨q5, hq5, hf⟩ := zw_bdE hf
    refine zx_callV (pc := 31) (As := [.int v2]) (o := (R v0 0)) (st := []) (d2 := 0) (M2 := M_X8_append) (P2 := (fun r S => r = none ∧ S = (q5, R, J))) d_X10_feed_31 (zw_mG (List.mem_of_getElem? (i := 525) (by decide +kernel)) rfl) ce_X8_append (zw_RvK g2 rfl rfl) (Nat.le_of_ble_eq_true rfl) rfl (Nat.le_of_ble_eq_true rfl) (by decide) (c_X8_append X (R v0 0) v2 q4 R J _ hq5 ⟨rfl, rfl⟩) ?_
    rintro _ _ ⟨rfl, rfl⟩
    show zy_V X M_X10_feed 1 P (31 + 3) [.ref v0, .int v1, .int v2, .int v3, .int v4, .int v5] [] (q5, R, J)
    refine zv_aload_n (pc := 34) d_X10_feed_34 rfl ?_
    refine zx_getR (pc := 35) d_X10_feed_35 lk_CutStones_10 (by decide) g1 g2 ?_
    refine zv_iload_n (pc := 38) d_X10_feed_38 rfl ?_
    obtain ⟨q6, hq6, hf⟩ := zw_bdE hf
    refine zx_callV (pc := 39) (As := [.int v3]) (o := (R v0 0)) (st := []) (d2 := 0) (M2 := M_X8_append) (P2 := (fun r S => r = none ∧ S = (q6, R, J))) d_X10_feed_39 (zw_mG (List.mem_of_getElem? (i := 525) (by decide +kernel)) rfl) ce_X8_append (zw_RvK g2 rfl rfl) (Nat.le_of_ble_eq_true rfl) rfl (Nat.le_of_ble_eq_true rfl) (by decide) (c_X8_append X (R v0 0) v3 q5 R J _ hq6 ⟨rfl, rfl⟩) ?_
    rintro _ _ ⟨rfl, rfl⟩
    show zy_V X M_X10_feed 1 P (39 + 3) [.ref v0, .int v1, .int v2, .int v3, .int v4, .int v5] [] (q6, R, J)
    refine zv_aload_n (pc := 42) d_X10_feed_42 rfl ?_
    refine zx_getR (pc := 43) d_X10_feed_43 lk_CutStones_10 (by decide) g1 g2 ?_
    refine zv_iload (pc := 46) d_X10_feed_46 rfl ?_
    obtain ⟨q7, hq7, hf⟩ := zw_bdE hf
    refine zx_callV (pc := 48) (As := [.int v4]) (o := (R v0 0)) (st := []) (d2 := 0) (M2 := M_X8_append) (P2 := (fun r S => r = none ∧ S = (q7, R, J))) d_X10_feed_48 (zw_mG (List.mem_of_getElem? (i := 525) (by decide +kernel)) rfl) ce_X8_append (zw_RvK g2 rfl rfl) (Nat.le_of_ble_eq_true rfl) rfl (Nat.le_of_ble_eq_true rfl) (by decide) (c_X8_append X (R v0 0) v4 q6 R J _ hq7 ⟨rfl, rfl⟩) ?_
    rintro _ _ ⟨rfl, rfl⟩
    show zy_V X M_X10_feed 1 P (48 + 3) [.ref v0, .int v1, .int v2, .int v3, .int v4, .int v5] [] (q7, R, J)
    refine zv_aload_n (pc := 51) d_X10_feed_51 rfl ?_
    refine zx_getR (pc := 52) d_X10_feed_52 lk_CutStones_10 (by decide) g1 g2 ?_
    refine zv_iload (pc := 55) d_X10_feed_55 rfl ?_
    obtain ⟨q8, hq8, hf⟩ := zw_bdE hf
    refine zx_callV (pc := 57) (As := [.int v5]) (o := (R v0 0)) (st := []) (d2 := 0) (M2 := M_X8_append) (P2 := (fun r S => r = none ∧ S = (q8, R, J))) d_X10_feed_57 (zw_mG (List.mem_of_getElem? (i := 525) (by decide +kernel)) rfl) ce_X8_append (zw_RvK g2 rfl rfl) (Nat.le_of_ble_eq_true rfl) rfl (Nat.le_of_ble_eq_true rfl) (by decide) (c_X8_append X (R v0 0) v5 q7 R J _ hq8 ⟨rfl, rfl⟩) ?_
    rintro _ _ ⟨rfl, rfl⟩
    show zy_V X M_X10_feed 1 P (57 + 3) [.ref v0, .int v1, .int v2, .int v3, .int v4, .int v5] [] (q8, R, J)
    refine zv_aload_n (pc := 60) d_X10_feed_60 rfl ?_
    refine zx_getR (pc := 61) d_X10_feed_61 lk_CutStones_10 (by decide) g1 g2 ?_
    refine zx_getI (pc := 64) d_X10_feed_64 lk_CutStones_88 (by decide) g2 ?_
    cases hf
    exact zx_iret (pc := 67) d_X10_feed_67 rfl hk
  · refine zv_icmp_le (pc := 13) (tg := 18) d_X10_feed_13 (by decide) (fun q => absurd q c3) (fun _ => ?_)
    refine zv_iconst (pc := 16) d_X10_feed_16 zc_i_m1 ?_
    cases hf
    exact zx_iret (pc := 17) d_X10_feed_17 rfl hk
