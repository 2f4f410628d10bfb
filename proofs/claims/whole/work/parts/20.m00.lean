abbrev M_J0_coder_7d493 : zw_M := (⟨"java/lang/String", "coder", "()B"⟩, prog_17_method_152_code, 1, (Option.some Jvm.ClassFile.FieldType.byte))
theorem d_J0_coder_7d493_0 : decode M_J0_coder_7d493.2.1 0 = .ok (.getstatic 38, 3) := by decide +kernel
theorem d_J0_coder_7d493_3 : decode M_J0_coder_7d493.2.1 3 = .ok (.ifCond .eq 10, 3) := by decide +kernel
theorem d_J0_coder_7d493_6 : decode M_J0_coder_7d493.2.1 6 = .ok (.aload_n 0, 1) := by decide +kernel
theorem d_J0_coder_7d493_7 : decode M_J0_coder_7d493.2.1 7 = .ok (.getfield 15, 3) := by decide +kernel
theorem d_J0_coder_7d493_10 : decode M_J0_coder_7d493.2.1 10 = .ok (.goto 4, 3) := by decide +kernel
theorem d_J0_coder_7d493_13 : decode M_J0_coder_7d493.2.1 13 = .ok (.iconst 1, 1) := by decide +kernel
theorem d_J0_coder_7d493_14 : decode M_J0_coder_7d493.2.1 14 = .ok (.ireturn, 1) := by decide +kernel
theorem ce_J0_coder_7d493 : zw_CeV M_J0_coder_7d493 0 := ⟨⟨⟨by decide +kernel, by decide +kernel, by decide +kernel⟩, (zw_mG (List.mem_of_getElem? (i := 575) (by decide +kernel)) rfl), (zw_mG (List.mem_of_getElem? (i := 109) (by decide +kernel)) rfl), by decide, by decide +kernel⟩, (zw_mG (List.mem_of_getElem? (i := 573) (by decide +kernel)) rfl), (zw_mG (List.mem_of_getElem? (i := 574) (by decide +kernel)) rfl)⟩
def f_J0_coder_7d493 (v0 : Nat)  : Option (Int32) :=
  if (1 : Int32) = 0 then none else zw_g (decide (v0 < 3)) (some 0)
theorem c_J0_coder_7d493 (X : zw_X) (v0 : Nat) (I : zI) (R : zR) (J : zJ) {P : Option Value → aS → Prop} (o : Int32) (hf : f_J0_coder_7d493 v0  = some o) (hk : P (some (.int o)) (I, R, J)) : zw_C X M_J0_coder_7d493 0 0 0 199 [.ref (1006 + v0)] (I, R, J) P := by
  show zy_V X M_J0_coder_7d493 0 P 0 [.ref (1006 + v0)] [] (I, R, J)
  unfold f_J0_coder_7d493 at hf
  refine zv_getz (pc := 0) d_J0_coder_7d493_0 (zw_mG (List.mem_of_getElem? (i := 576) (by decide +kernel)) rfl) ?_
  rcases zw_ifE hf with ⟨c1, hf⟩ | ⟨c1, hf⟩
  · refine zv_if_eq (pc := 3) (tg := 13) d_J0_coder_7d493_3 (by decide) (fun _ => ?_) (fun q => absurd c1 q)
    refine zv_iconst (pc := 13) d_J0_coder_7d493_13 zc_i_1 ?_
    cases hf
  · refine zv_if_eq (pc := 3) (tg := 13) d_J0_coder_7d493_3 (by decide) (fun q => absurd q c1) (fun _ => ?_)
    refine zv_aload_n (pc := 6) d_J0_coder_7d493_6 rfl ?_
    obtain ⟨g2, hf⟩ := zw_gE hf
    have g2 := of_decide_eq_true g2
    refine zv_scod (pc := 7) d_J0_coder_7d493_7 g2 (zw_mG (List.mem_of_getElem? (i := 1730) (by decide +kernel)) rfl) ?_
    refine zv_goto (pc := 10) (tg := 14) d_J0_coder_7d493_10 (by decide) ?_
    cases hf
    exact zx_bret0 (pc := 14) d_J0_coder_7d493_14 rfl hk
abbrev M_J0_isLatin1_aae02 : zw_M := (⟨"java/lang/String", "isLatin1", "()Z"⟩, prog_17_method_154_code, 1, (Option.some Jvm.ClassFile.FieldType.boolean))
theorem d_J0_isLatin1_aae02_0 : decode M_J0_isLatin1_aae02.2.1 0 = .ok (.getstatic 38, 3) := by decide +kernel
theorem d_J0_isLatin1_aae02_3 : decode M_J0_isLatin1_aae02.2.1 3 = .ok (.ifCond .eq 14, 3) := by decide +kernel
theorem d_J0_isLatin1_aae02_6 : decode M_J0_isLatin1_aae02.2.1 6 = .ok (.aload_n 0, 1) := by decide +kernel
theorem d_J0_isLatin1_aae02_7 : decode M_J0_isLatin1_aae02.2.1 7 = .ok (.getfield 15, 3) := by decide +kernel
theorem d_J0_isLatin1_aae02_10 : decode M_J0_isLatin1_aae02.2.1 10 = .ok (.ifCond .ne 7, 3) := by decide +kernel
theorem d_J0_isLatin1_aae02_13 : decode M_J0_isLatin1_aae02.2.1 13 = .ok (.iconst 1, 1) := by decide +kernel
theorem d_J0_isLatin1_aae02_14 : decode M_J0_isLatin1_aae02.2.1 14 = .ok (.goto 4, 3) := by decide +kernel
theorem d_J0_isLatin1_aae02_17 : decode M_J0_isLatin1_aae02.2.1 17 = .ok (.iconst 0, 1) := by decide +kernel
theorem d_J0_isLatin1_aae02_18 : decode M_J0_isLatin1_aae02.2.1 18 = .ok (.ireturn, 1) := by decide +kernel
theorem ce_J0_isLatin1_aae02 : zw_CeV M_J0_isLatin1_aae02 0 := ⟨⟨⟨by decide +kernel, by decide +kernel, by decide +kernel⟩, (zw_mG (List.mem_of_getElem? (i := 585) (by decide +kernel)) rfl), (zw_mG (List.mem_of_getElem? (i := 109) (by decide +kernel)) rfl), by decide, by decide +kernel⟩, (zw_mG (List.mem_of_getElem? (i := 583) (by decide +kernel)) rfl), (zw_mG (List.mem_of_getElem? (i := 584) (by decide +kernel)) rfl)⟩
def f_J0_isLatin1_aae02 (v0 : Nat)  : Option (Int32) :=
  if (1 : Int32) = 0 then some 0 else zw_g (decide (v0 < 3)) (if ¬ (0 : Int32) = 0 then some 0 else some 1)
theorem c_J0_isLatin1_aae02 (X : zw_X) (v0 : Nat) (I : zI) (R : zR) (J : zJ) {P : Option Value → aS → Prop} (o : Int32) (hf : f_J0_isLatin1_aae02 v0  = some o) (hk : P (some (.int o)) (I, R, J)) : zw_C X M_J0_isLatin1_aae02 0 0 0 199 [.ref (1006 + v0)] (I, R, J) P := by
  show zy_V X M_J0_isLatin1_aae02 0 P 0 [.ref (1006 + v0)] [] (I, R, J)
  unfold f_J0_isLatin1_aae02 at hf
  refine zv_getz (pc := 0) d_J0_isLatin1_aae02_0 (zw_mG (List.mem_of_getElem? (i := 576) (by decide +kernel)) rfl) ?_
  rcases zw_ifE hf with ⟨c1, hf⟩ | ⟨c1, hf⟩
  · refine zv_if_eq (pc := 3) (tg := 17) d_J0_isLatin1_aae02_3 (by decide) (fun _ => ?_) (fun q => absurd c1 q)
    refine zv_iconst (pc := 17) d_J0_isLatin1_aae02_17 zc_i_0 ?_
    cases hf
    exact zx_zret (pc := 18) d_J0_isLatin1_aae02_18 rfl (Or.inl rfl) hk
  · refine zv_if_eq (pc := 3) (tg := 17) d_J0_isLatin1_aae02_3 (by decide) (fun q => absurd q c1) (fun _ => ?_)
    refine zv_aload_n (pc := 6) d_J0_isLatin1_aae02_6 rfl ?_
    obtain ⟨g2, hf⟩ := zw_gE hf
    have g2 := of_decide_eq_true g2
    refine zv_scod (pc := 7) d_J0_isLatin1_aae02_7 g2 (zw_mG (List.mem_of_getElem? (i := 1730) (by decide +kernel)) rfl) ?_
    rcases zw_ifE hf with ⟨c3, hf⟩ | ⟨c3, hf⟩
    · refine zv_if_ne (pc := 10) (tg := 17) d_J0_isLatin1_aae02_10 (by decide) (fun _ => ?_) (fun q => absurd q c3)
      refine zv_iconst (pc := 17) d_J0_isLatin1_aae02_17 zc_i_0 ?_
      cases hf
      exact zx_zret (pc := 18) d_J0_isLatin1_aae02_18 rfl (Or.inl rfl) hk
    · refine zv_if_ne (pc := 10) (tg := 17) d_J0_isLatin1_aae02_10 (by decide) (fun q => absurd q c3) (fun _ => ?_)
      refine zv_iconst (pc := 13) d_J0_isLatin1_aae02_13 zc_i_1 ?_
      refine zv_goto (pc := 14) (tg := 18) d_J0_isLatin1_aae02_14 (by decide) ?_
      cases hf
      exact zx_zret (pc := 18) d_J0_isLatin1_aae02_18 rfl (Or.inr rfl) hk
abbrev M_J1_canEncode_9a6ad : zw_M := (⟨"java/lang/StringLatin1", "canEncode", "(I)Z"⟩, prog_18_method_4_code, 1, (Option.some Jvm.ClassFile.FieldType.boolean))
theorem d_J1_canEncode_9a6ad_0 : decode M_J1_canEncode_9a6ad.2.1 0 = .ok (.iload_n 0, 1) := by decide +kernel
theorem d_J1_canEncode_9a6ad_1 : decode M_J1_canEncode_9a6ad.2.1 1 = .ok (.ifCond .lt 14, 3) := by decide +kernel
theorem d_J1_canEncode_9a6ad_4 : decode M_J1_canEncode_9a6ad.2.1 4 = .ok (.iload_n 0, 1) := by decide +kernel
theorem d_J1_canEncode_9a6ad_5 : decode M_J1_canEncode_9a6ad.2.1 5 = .ok (.sipush 255, 3) := by decide +kernel
theorem d_J1_canEncode_9a6ad_8 : decode M_J1_canEncode_9a6ad.2.1 8 = .ok (.if_icmp .gt 7, 3) := by decide +kernel
theorem d_J1_canEncode_9a6ad_11 : decode M_J1_canEncode_9a6ad.2.1 11 = .ok (.iconst 1, 1) := by decide +kernel
theorem d_J1_canEncode_9a6ad_12 : decode M_J1_canEncode_9a6ad.2.1 12 = .ok (.goto 4, 3) := by decide +kernel
theorem d_J1_canEncode_9a6ad_15 : decode M_J1_canEncode_9a6ad.2.1 15 = .ok (.iconst 0, 1) := by decide +kernel
theorem d_J1_canEncode_9a6ad_16 : decode M_J1_canEncode_9a6ad.2.1 16 = .ok (.ireturn, 1) := by decide +kernel
theorem ce_J1_canEncode_9a6ad : zw_CeS M_J1_canEncode_9a6ad 1 := ⟨⟨⟨by decide +kernel, by decide +kernel, by decide +kernel⟩, (zw_mG (List.mem_of_getElem? (i := 643) (by decide +kernel)) rfl), (zw_mG (List.mem_of_getElem? (i := 110) (by decide +kernel)) rfl), by decide, by decide +kernel⟩, (zw_mG (List.mem_of_getElem? (i := 642) (by decide +kernel)) rfl)⟩
def f_J1_canEncode_9a6ad (v0 : Int32)  : Option (Int32) :=
  if v0 < 0 then some 0 else if 255 < v0 then some 0 else some 1
theorem c_J1_canEncode_9a6ad (X : zw_X) (v0 : Int32) (I : zI) (R : zR) (J : zJ) {P : Option Value → aS → Prop} (o : Int32) (hf : f_J1_canEncode_9a6ad v0  = some o) (hk : P (some (.int o)) (I, R, J)) : zw_C X M_J1_canEncode_9a6ad 0 0 0 199 [.int v0] (I, R, J) P := by
  show zy_V X M_J1_canEncode_9a6ad 0 P 0 [.int v0] [] (I, R, J)
  unfold f_J1_canEncode_9a6ad at hf
  refine zv_iload_n (pc := 0) d_J1_canEncode_9a6ad_0 rfl ?_
  rcases zw_ifE hf with ⟨c1, hf⟩ | ⟨c1, hf⟩
  · refine zv_if_lt (pc := 1) (tg := 15) d_J1_canEncode_9a6ad_1 (by decide) (fun _ => ?_) (fun q => absurd c1 q)
    refine zv_iconst (pc := 15) d_J1_canEncode_9a6ad_15 zc_i_0 ?_
    cases hf
    exact zx_zret (pc := 16) d_J1_canEncode_9a6ad_16 rfl (Or.inl rfl) hk
  · refine zv_if_lt (pc := 1) (tg := 15) d_J1_canEncode_9a6ad_1 (by decide) (fun q => absurd q c1) (fun _ => ?_)
    refine zv_iload_n (pc := 4) d_J1_canEncode_9a6ad_4 rfl ?_
    refine zv_sipush (pc := 5) d_J1_canEncode_9a6ad_5 zc_s_255 ?_
    rcases zw_ifE hf with ⟨c2, hf⟩ | ⟨c2, hf⟩
    · refine zv_icmp_gt (pc := 8) (tg := 15) d_J1_canEncode_9a6ad_8 (by decide) (fun _ => ?_) (fun q => absurd c2 q)
      refine zv_iconst (pc := 15) d_J1_canEncode_9a6ad_15 zc_i_0 ?_
      cases hf
      exact zx_zret (pc := 16) d_J1_canEncode_9a6ad_16 rfl (Or.inl rfl) hk
    · refine zv_icmp_gt (pc := 8) (tg := 15) d_J1_canEncode_9a6ad_8 (by decide) (fun q => absurd q c2) (fun _ => ?_)
      refine zv_iconst (pc := 11) d_J1_canEncode_9a6ad_11 zc_i_1 ?_
      refine zv_goto (pc := 12) (tg := 16) d_J1_canEncode_9a6ad_12 (by decide) ?_
      cases hf
      exact zx_zret (pc := 16) d_J1_canEncode_9a6ad_16 rfl (Or.inr rfl) hk
abbrev M_J1_indexOfChar_4cfef : zw_M := (⟨"java/lang/StringLatin1", "indexOfChar", "([BIII)I"⟩, prog_18_method_23_code, 6, (Option.some Jvm.ClassFile.FieldType.int))
theorem d_J1_indexOfChar_4cfef_0 : decode M_J1_indexOfChar_4cfef.2.1 0 = .ok (.iload_n 1, 1) := by decide +kernel
theorem d_J1_indexOfChar_4cfef_1 : decode M_J1_indexOfChar_4cfef.2.1 1 = .ok (.i2b, 1) := by decide +kernel
theorem d_J1_indexOfChar_4cfef_2 : decode M_J1_indexOfChar_4cfef.2.1 2 = .ok (.istore 4, 2) := by decide +kernel
theorem d_J1_indexOfChar_4cfef_4 : decode M_J1_indexOfChar_4cfef.2.1 4 = .ok (.iload_n 2, 1) := by decide +kernel
theorem d_J1_indexOfChar_4cfef_5 : decode M_J1_indexOfChar_4cfef.2.1 5 = .ok (.istore 5, 2) := by decide +kernel
theorem d_J1_indexOfChar_4cfef_7 : decode M_J1_indexOfChar_4cfef.2.1 7 = .ok (.iload 5, 2) := by decide +kernel
theorem d_J1_indexOfChar_4cfef_9 : decode M_J1_indexOfChar_4cfef.2.1 9 = .ok (.iload_n 3, 1) := by decide +kernel
theorem d_J1_indexOfChar_4cfef_10 : decode M_J1_indexOfChar_4cfef.2.1 10 = .ok (.if_icmp .ge 21, 3) := by decide +kernel
theorem d_J1_indexOfChar_4cfef_13 : decode M_J1_indexOfChar_4cfef.2.1 13 = .ok (.aload_n 0, 1) := by decide +kernel
theorem d_J1_indexOfChar_4cfef_14 : decode M_J1_indexOfChar_4cfef.2.1 14 = .ok (.iload 5, 2) := by decide +kernel
theorem d_J1_indexOfChar_4cfef_16 : decode M_J1_indexOfChar_4cfef.2.1 16 = .ok (.baload, 1) := by decide +kernel
theorem d_J1_indexOfChar_4cfef_17 : decode M_J1_indexOfChar_4cfef.2.1 17 = .ok (.iload 4, 2) := by decide +kernel
theorem d_J1_indexOfChar_4cfef_19 : decode M_J1_indexOfChar_4cfef.2.1 19 = .ok (.if_icmp .ne 6, 3) := by decide +kernel
theorem d_J1_indexOfChar_4cfef_22 : decode M_J1_indexOfChar_4cfef.2.1 22 = .ok (.iload 5, 2) := by decide +kernel
theorem d_J1_indexOfChar_4cfef_24 : decode M_J1_indexOfChar_4cfef.2.1 24 = .ok (.ireturn, 1) := by decide +kernel
theorem d_J1_indexOfChar_4cfef_25 : decode M_J1_indexOfChar_4cfef.2.1 25 = .ok (.iinc 5 1, 3) := by decide +kernel
theorem d_J1_indexOfChar_4cfef_28 : decode M_J1_indexOfChar_4cfef.2.1 28 = .ok (.goto (-21), 3) := by decide +kernel
theorem d_J1_indexOfChar_4cfef_31 : decode M_J1_indexOfChar_4cfef.2.1 31 = .ok (.iconst (-1), 1) := by decide +kernel
theorem d_J1_indexOfChar_4cfef_32 : decode M_J1_indexOfChar_4cfef.2.1 32 = .ok (.ireturn, 1) := by decide +kernel
theorem ce_J1_indexOfChar_4cfef : zw_CeS M_J1_indexOfChar_4cfef 4 := ⟨⟨⟨by decide +kernel, by decide +kernel, by decide +kernel⟩, (zw_mG (List.mem_of_getElem? (i := 652) (by decide +kernel)) rfl), (zw_mG (List.mem_of_getElem? (i := 110) (by decide +kernel)) rfl), by decide, by decide +kernel⟩, (zw_mG (List.mem_of_getElem? (i := 651) (by decide +kernel)) rfl)⟩
def s_J1_indexOfChar_4cfef_7 (v0 : Nat) (v3 : Int32) (v4 : Int32)  (s : Int32) : Option ((Int32) ⊕ ((Unit) ⊕ (Int32))) :=
  if v3 ≤ s then some (.inr (.inl ())) else zw_g (decide (v0 < 3)) (zw_g (zw_in s (zw_len.getD v0 0)) (if ¬ ((zw_byt.getD v0 []).getD (Int32.toNatClampNeg s) 0) = v4 then zw_let (s + 1 : Int32) fun x6 => (some (.inl x6)) else some (.inr (.inr s))))
theorem s_J1_indexOfChar_4cfef_7_ok (X : zw_X) (P : Option Value → aS → Prop) (v0 : Nat) (v3 : Int32) (v4 : Int32) (I : zI) (R : zR) (J : zJ) (s : Int32) (o : (Int32) ⊕ ((Unit) ⊕ (Int32))) (hf : s_J1_indexOfChar_4cfef_7 v0 v3 v4 s = some o) (hk : (zw_se (fun t => zy_V X M_J1_indexOfChar_4cfef 0 P 7 [.ref (1009 + v0), .null, .null, .int v3, .int v4, .int t] [] (I, R, J)) (fun r => (zw_se (fun r0 => zy_V X M_J1_indexOfChar_4cfef 0 P 31 [.null, .null, .null, .null, .null, .null] [] (I, R, J)) (fun t0 => zy_V X M_J1_indexOfChar_4cfef 0 P 22 [.null, .null, .null, .null, .null, .int t0] [] (I, R, J)) r)) o)) : zy_V X M_J1_indexOfChar_4cfef 0 P 7 [.ref (1009 + v0), .null, .null, .int v3, .int v4, .int s] [] (I, R, J) := by
  unfold s_J1_indexOfChar_4cfef_7 at hf
  refine zv_iload (pc := 7) d_J1_indexOfChar_4cfef_7 rfl ?_
  refine zv_iload_n (pc := 9) d_J1_indexOfChar_4cfef_9 rfl ?_
  rcases zw_ifE hf with ⟨c2, hf⟩ | ⟨c2, hf⟩
  · refine zv_icmp_ge (pc := 10) (tg := 31) d_J1_indexOfChar_4cfef_10 (by decide) (fun _ => ?_) (fun q => absurd c2 q)
    cases hf
    exact zx_weak (zw_leN (zw_leN (zw_leN (zw_leN (zw_leN (zw_leN zw_leZ)))))) hk
  · refine zv_icmp_ge (pc := 10) (tg := 31) d_J1_indexOfChar_4cfef_10 (by decide) (fun q => absurd q c2) (fun _ => ?_)
    refine zv_aload_n (pc := 13) d_J1_indexOfChar_4cfef_13 rfl ?_
    refine zv_iload (pc := 14) d_J1_indexOfChar_4cfef_14 rfl ?_
    obtain ⟨g3, hf⟩ := zw_gE hf
    have g3 := of_decide_eq_true g3
    obtain ⟨i4, hf⟩ := zw_inE hf
    refine zv_sbyt (pc := 16) d_J1_indexOfChar_4cfef_16 g3 i4 ?_
    refine zv_iload (pc := 17) d_J1_indexOfChar_4cfef_17 rfl ?_
    rcases zw_ifE hf with ⟨c5, hf⟩ | ⟨c5, hf⟩
    · refine zv_icmp_ne (pc := 19) (tg := 25) d_J1_indexOfChar_4cfef_19 (by decide) (fun _ => ?_) (fun q => absurd q c5)
      obtain ⟨x6, ex6, hf⟩ := zw_letE hf
      refine zx_iinc (pc := 25) (x2 := x6) (L2 := [.ref (1009 + v0), .null, .null, .int v3, .int v4, .int x6]) d_J1_indexOfChar_4cfef_25 (by decide) rfl zc_i_1 ex6 rfl ?_
      refine zv_goto (pc := 28) (tg := 7) d_J1_indexOfChar_4cfef_28 (by decide) ?_
      cases hf
      exact zx_weak (zw_leS (zw_leN (zw_leN (zw_leS (zw_leS (zw_leS zw_leZ)))))) hk
    · refine zv_icmp_ne (pc := 19) (tg := 25) d_J1_indexOfChar_4cfef_19 (by decide) (fun q => absurd q c5) (fun _ => ?_)
      cases hf
      exact zx_weak (zw_leN (zw_leN (zw_leN (zw_leN (zw_leN (zw_leS zw_leZ)))))) hk
theorem s_J1_indexOfChar_4cfef_7_lp (X : zw_X) (P : Option Value → aS → Prop) (v0 : Nat) (v3 : Int32) (v4 : Int32) (I : zI) (R : zR) (J : zJ) (n : Nat) (s : Int32) (r : (Unit) ⊕ (Int32)) (h : zw_it (s_J1_indexOfChar_4cfef_7 v0 v3 v4) n s = some r) (hq : (zw_se (fun r0 => zy_V X M_J1_indexOfChar_4cfef 0 P 31 [.null, .null, .null, .null, .null, .null] [] (I, R, J)) (fun t0 => zy_V X M_J1_indexOfChar_4cfef 0 P 22 [.null, .null, .null, .null, .null, .int t0] [] (I, R, J)) r)) : zy_V X M_J1_indexOfChar_4cfef 0 P 7 [.ref (1009 + v0), .null, .null, .int v3, .int v4, .int s] [] (I, R, J) :=
  zw_itE (A := (fun t : Int32 => zy_V X M_J1_indexOfChar_4cfef 0 P 7 [.ref (1009 + v0), .null, .null, .int v3, .int v4, .int t] [] (I, R, J))) (Q := (fun r : (Unit) ⊕ (Int32) => (zw_se (fun r0 => zy_V X M_J1_indexOfChar_4cfef 0 P 31 [.null, .null, .null, .null, .null, .null] [] (I, R, J)) (fun t0 => zy_V X M_J1_indexOfChar_4cfef 0 P 22 [.null, .null, .null, .null, .null, .int t0] [] (I, R, J)) r))) (fun s o h1 h2 => s_J1_indexOfChar_4cfef_7_ok X P v0 v3 v4 I R J s o h1 h2) n s r h hq
def f_J1_indexOfChar_4cfef (v0 : Nat) (v1 : Int32) (v2 : Int32) (v3 : Int32)  : Option (Int32) :=
  zw_let ((Int8.toInt32 (Int32.toInt8 v1)) : Int32) fun x1 => ((zw_it (s_J1_indexOfChar_4cfef_7 v0 v3 x1) 1000000 v2).bind fun q7 => (match q7 with | .inl a8 => (some (-1)) | .inr a9 => (some a9)))
theorem c_J1_indexOfChar_4cfef (X : zw_X) (v0 : Nat) (v1 : Int32) (v2 : Int32) (v3 : Int32) (I : zI) (R : zR) (J : zJ) {P : Option Value → aS → Prop} (o : Int32) (hf : f_J1_indexOfChar_4cfef v0 v1 v2 v3  = some o) (hk : P (some (.int o)) (I, R, J)) : zw_C X M_J1_indexOfChar_4cfef 0 0 0 199 [.ref (1009 + v0), .int v1, .int v2, .int v3] (I, R, J) P := by
  show zy_V X M_J1_indexOfChar_4cfef 0 P 0 [.ref (1009 + v0), .int v1, .int v2, .int v3, .null, .null] [] (I, R, J)
  unfold f_J1_indexOfChar_4cfef at hf
  refine zv_iload_n (pc := 0) d_J1_indexOfChar_4cfef_0 rfl ?_
  refine zv_i2b (pc := 1) d_J1_indexOfChar_4cfef_1 ?_
  obtain ⟨x1, ex1, hf⟩ := zw_letE hf
  refine zx_istore (pc := 2) (x2 := x1) (L2 := [.ref (1009 + v0), .int v1, .int v2, .int v3, .int x1, .null]) d_J1_indexOfChar_4cfef_2 (by decide) ex1 rfl ?_
  refine zv_iload_n (pc := 4) d_J1_indexOfChar_4cfef_4 rfl ?_
  refine zx_istore (pc := 5) (x2 := v2) (L2 := [.ref (1009 + v0), .int v1, .int v2, .int v3, .int x1, .int v2]) d_J1_indexOfChar_4cfef_5 (by decide) rfl rfl ?_
  obtain ⟨q7, hq7, hf⟩ := zw_bdE hf
  refine zx_weak (L' := [.ref (1009 + v0), .null, .null, .int v3, .int x1, .int v2]) (zw_leS (zw_leN (zw_leN (zw_leS (zw_leS (zw_leS zw_leZ)))))) (s_J1_indexOfChar_4cfef_7_lp X P v0 v3 x1 I R J _ _ _ hq7 ?_)
  rcases q7 with a8 | a9
  ·
    show zy_V X M_J1_indexOfChar_4cfef 0 P 31 [.null, .null, .null, .null, .null, .null] [] (I, R, J)
    refine zv_iconst (pc := 31) d_J1_indexOfChar_4cfef_31 zc_i_m1 ?_
    cases hf
    exact zx_iret (pc := 32) d_J1_indexOfChar_4cfef_32 rfl hk
  ·
    show zy_V X M_J1_indexOfChar_4cfef 0 P 22 [.null, .null, .null, .null, .null, .int a9] [] (I, R, J)
    refine zv_iload (pc := 22) d_J1_indexOfChar_4cfef_22 rfl ?_
    cases hf
    exact zx_iret (pc := 24) d_J1_indexOfChar_4cfef_24 rfl hk
abbrev M_J3_checkIndex_8e157 : zw_M := (⟨"jdk/internal/util/Preconditions", "checkIndex", "(IILjava/util/function/BiFunction;)I"⟩, prog_21_method_11_code, 3, (Option.some Jvm.ClassFile.FieldType.int))
theorem d_J3_checkIndex_8e157_0 : decode M_J3_checkIndex_8e157.2.1 0 = .ok (.iload_n 0, 1) := by decide +kernel
theorem d_J3_checkIndex_8e157_1 : decode M_J3_checkIndex_8e157.2.1 1 = .ok (.ifCond .lt 8, 3) := by decide +kernel
theorem d_J3_checkIndex_8e157_4 : decode M_J3_checkIndex_8e157.2.1 4 = .ok (.iload_n 0, 1) := by decide +kernel
theorem d_J3_checkIndex_8e157_5 : decode M_J3_checkIndex_8e157.2.1 5 = .ok (.iload_n 1, 1) := by decide +kernel
theorem d_J3_checkIndex_8e157_6 : decode M_J3_checkIndex_8e157.2.1 6 = .ok (.if_icmp .lt 10, 3) := by decide +kernel
theorem d_J3_checkIndex_8e157_9 : decode M_J3_checkIndex_8e157.2.1 9 = .ok (.aload_n 2, 1) := by decide +kernel
theorem d_J3_checkIndex_8e157_10 : decode M_J3_checkIndex_8e157.2.1 10 = .ok (.iload_n 0, 1) := by decide +kernel
theorem d_J3_checkIndex_8e157_11 : decode M_J3_checkIndex_8e157.2.1 11 = .ok (.iload_n 1, 1) := by decide +kernel
theorem d_J3_checkIndex_8e157_12 : decode M_J3_checkIndex_8e157.2.1 12 = .ok (.invokestatic 95, 3) := by decide +kernel
theorem d_J3_checkIndex_8e157_15 : decode M_J3_checkIndex_8e157.2.1 15 = .ok (.athrow, 1) := by decide +kernel
theorem d_J3_checkIndex_8e157_16 : decode M_J3_checkIndex_8e157.2.1 16 = .ok (.iload_n 0, 1) := by decide +kernel
theorem d_J3_checkIndex_8e157_17 : decode M_J3_checkIndex_8e157.2.1 17 = .ok (.ireturn, 1) := by decide +kernel
theorem ce_J3_checkIndex_8e157 : zw_CeS M_J3_checkIndex_8e157 3 := ⟨⟨⟨by decide +kernel, by decide +kernel, by decide +kernel⟩, (zw_mG (List.mem_of_getElem? (i := 596) (by decide +kernel)) rfl), (zw_mG (List.mem_of_getElem? (i := 111) (by decide +kernel)) rfl), by decide, by decide +kernel⟩, (zw_mG (List.mem_of_getElem? (i := 595) (by decide +kernel)) rfl)⟩
def j_J3_checkIndex_8e157_9 (v0 : Int32) (v1 : Int32) (v2 : Nat)  : Option (Int32) :=
  none
theorem j_J3_checkIndex_8e157_9_ok (X : zw_X) (P : Option Value → aS → Prop) (v0 : Int32) (v1 : Int32) (v2 : Nat) (I : zI) (R : zR) (J : zJ) (o : Int32) (hf : j_J3_checkIndex_8e157_9 v0 v1 v2 = some o) (hk : P (some (.int o)) (I, R, J)) : zy_V X M_J3_checkIndex_8e157 0 P 9 [.int v0, .int v1, .ref v2] [] (I, R, J) := by
  unfold j_J3_checkIndex_8e157_9 at hf
  refine zv_aload_n (pc := 9) d_J3_checkIndex_8e157_9 rfl ?_
  refine zv_iload_n (pc := 10) d_J3_checkIndex_8e157_10 rfl ?_
  refine zv_iload_n (pc := 11) d_J3_checkIndex_8e157_11 rfl ?_
  cases hf
def f_J3_checkIndex_8e157 (v0 : Int32) (v1 : Int32) (v2 : Nat)  : Option (Int32) :=
  if v0 < 0 then j_J3_checkIndex_8e157_9 v0 v1 v2 else if v0 < v1 then some v0 else j_J3_checkIndex_8e157_9 v0 v1 v2
theorem c_J3_checkIndex_8e157 (X : zw_X) (v0 : Int32) (v1 : Int32) (v2 : Nat) (I : zI) (R : zR) (J : zJ) {P : Option Value → aS → Prop} (o : Int32) (hf : f_J3_checkIndex_8e157 v0 v1 v2  = some o) (hk : P (some (.int o)) (I, R, J)) : zw_C X M_J3_checkIndex_8e157 0 0 0 199 [.int v0, .int v1, .ref v2] (I, R, J) P := by
  show zy_V X M_J3_checkIndex_8e157 0 P 0 [.int v0, .int v1, .ref v2] [] (I, R, J)
  unfold f_J3_checkIndex_8e157 at hf
  refine zv_iload_n (pc := 0) d_J3_checkIndex_8e157_0 rfl ?_
  rcases zw_ifE hf with ⟨c1, hf⟩ | ⟨c1, hf⟩
  · refine zv_if_lt (pc := 1) (tg := 9) d_J3_checkIndex_8e157_1 (by decide) (fun _ => ?_) (fun q => absurd c1 q)
    exact zx_weak (zw_leS (zw_leS (zw_leS zw_leZ))) (j_J3_checkIndex_8e157_9_ok X P v0 v1 v2 I R J _ hf hk)
  · refine zv_if_lt (pc := 1) (tg := 9) d_J3_checkIndex_8e157_1 (by decide) (fun q => absurd q c1) (fun _ => ?_)
    refine zv_iload_n (pc := 4) d_J3_checkIndex_8e157_4 rfl ?_
    refine zv_iload_n (pc := 5) d_J3_checkIndex_8e157_5 rfl ?_
    rcases zw_ifE hf with ⟨c2, hf⟩ | ⟨c2, hf⟩
    · refine zv_icmp_lt (pc := 6) (tg := 16) d_J3_checkIndex_8e157_6 (by decide) (fun _ => ?_) (fun q => absurd c2 q)
      refine zv_iload_n (pc := 16) d_J3_checkIndex_8e157_16 rfl ?_
      cases hf
      exact zx_iret (pc := 17) d_J3_checkIndex_8e157_17 rfl hk
    · refine zv_icmp_lt (pc := 6) (tg := 16) d_J3_checkIndex_8e157_6 (by decide) (fun q => absurd q c2) (fun _ => ?_)
      exact zx_weak (zw_leS (zw_leS (zw_leS zw_leZ))) (j_J3_checkIndex_8e157_9_ok X P v0 v1 v2 I R J _ hf hk)
abbrev M_J6_bitCount_0f7a4 : zw_M := (⟨"java/lang/Integer", "bitCount", "(I)I"⟩, prog_15_method_49_code, 1, (Option.some Jvm.ClassFile.FieldType.int))
theorem d_J6_bitCount_0f7a4_0 : decode M_J6_bitCount_0f7a4.2.1 0 = .ok (.iload_n 0, 1) := by decide +kernel
theorem d_J6_bitCount_0f7a4_1 : decode M_J6_bitCount_0f7a4.2.1 1 = .ok (.iload_n 0, 1) := by decide +kernel
theorem d_J6_bitCount_0f7a4_2 : decode M_J6_bitCount_0f7a4.2.1 2 = .ok (.iconst 1, 1) := by decide +kernel
theorem d_J6_bitCount_0f7a4_3 : decode M_J6_bitCount_0f7a4.2.1 3 = .ok (.iushr, 1) := by decide +kernel
theorem d_J6_bitCount_0f7a4_4 : decode M_J6_bitCount_0f7a4.2.1 4 = .ok (.ldc_w 265, 3) := by decide +kernel
theorem d_J6_bitCount_0f7a4_7 : decode M_J6_bitCount_0f7a4.2.1 7 = .ok (.iand, 1) := by decide +kernel
theorem d_J6_bitCount_0f7a4_8 : decode M_J6_bitCount_0f7a4.2.1 8 = .ok (.isub, 1) := by decide +kernel
theorem d_J6_bitCount_0f7a4_9 : decode M_J6_bitCount_0f7a4.2.1 9 = .ok (.istore_n 0, 1) := by decide +kernel
theorem d_J6_bitCount_0f7a4_10 : decode M_J6_bitCount_0f7a4.2.1 10 = .ok (.iload_n 0, 1) := by decide +kernel
theorem d_J6_bitCount_0f7a4_11 : decode M_J6_bitCount_0f7a4.2.1 11 = .ok (.ldc_w 266, 3) := by decide +kernel
theorem d_J6_bitCount_0f7a4_14 : decode M_J6_bitCount_0f7a4.2.1 14 = .ok (.iand, 1) := by decide +kernel
theorem d_J6_bitCount_0f7a4_15 : decode M_J6_bitCount_0f7a4.2.1 15 = .ok (.iload_n 0, 1) := by decide +kernel
theorem d_J6_bitCount_0f7a4_16 : decode M_J6_bitCount_0f7a4.2.1 16 = .ok (.iconst 2, 1) := by decide +kernel
theorem d_J6_bitCount_0f7a4_17 : decode M_J6_bitCount_0f7a4.2.1 17 = .ok (.iushr, 1) := by decide +kernel
theorem d_J6_bitCount_0f7a4_18 : decode M_J6_bitCount_0f7a4.2.1 18 = .ok (.ldc_w 266, 3) := by decide +kernel
theorem d_J6_bitCount_0f7a4_21 : decode M_J6_bitCount_0f7a4.2.1 21 = .ok (.iand, 1) := by decide +kernel
theorem d_J6_bitCount_0f7a4_22 : decode M_J6_bitCount_0f7a4.2.1 22 = .ok (.iadd, 1) := by decide +kernel
theorem d_J6_bitCount_0f7a4_23 : decode M_J6_bitCount_0f7a4.2.1 23 = .ok (.istore_n 0, 1) := by decide +kernel
theorem d_J6_bitCount_0f7a4_24 : decode M_J6_bitCount_0f7a4.2.1 24 = .ok (.iload_n 0, 1) := by decide +kernel
theorem d_J6_bitCount_0f7a4_25 : decode M_J6_bitCount_0f7a4.2.1 25 = .ok (.iload_n 0, 1) := by decide +kernel
theorem d_J6_bitCount_0f7a4_26 : decode M_J6_bitCount_0f7a4.2.1 26 = .ok (.iconst 4, 1) := by decide +kernel
theorem d_J6_bitCount_0f7a4_27 : decode M_J6_bitCount_0f7a4.2.1 27 = .ok (.iushr, 1) := by decide +kernel
theorem d_J6_bitCount_0f7a4_28 : decode M_J6_bitCount_0f7a4.2.1 28 = .ok (.iadd, 1) := by decide +kernel
theorem d_J6_bitCount_0f7a4_29 : decode M_J6_bitCount_0f7a4.2.1 29 = .ok (.ldc_w 267, 3) := by decide +kernel
theorem d_J6_bitCount_0f7a4_32 : decode M_J6_bitCount_0f7a4.2.1 32 = .ok (.iand, 1) := by decide +kernel
theorem d_J6_bitCount_0f7a4_33 : decode M_J6_bitCount_0f7a4.2.1 33 = .ok (.istore_n 0, 1) := by decide +kernel
theorem d_J6_bitCount_0f7a4_34 : decode M_J6_bitCount_0f7a4.2.1 34 = .ok (.iload_n 0, 1) := by decide +kernel
theorem d_J6_bitCount_0f7a4_35 : decode M_J6_bitCount_0f7a4.2.1 35 = .ok (.iload_n 0, 1) := by decide +kernel
theorem d_J6_bitCount_0f7a4_36 : decode M_J6_bitCount_0f7a4.2.1 36 = .ok (.bipush 8, 2) := by decide +kernel
theorem d_J6_bitCount_0f7a4_38 : decode M_J6_bitCount_0f7a4.2.1 38 = .ok (.iushr, 1) := by decide +kernel
theorem d_J6_bitCount_0f7a4_39 : decode M_J6_bitCount_0f7a4.2.1 39 = .ok (.iadd, 1) := by decide +kernel
theorem d_J6_bitCount_0f7a4_40 : decode M_J6_bitCount_0f7a4.2.1 40 = .ok (.istore_n 0, 1) := by decide +kernel
theorem d_J6_bitCount_0f7a4_41 : decode M_J6_bitCount_0f7a4.2.1 41 = .ok (.iload_n 0, 1) := by decide +kernel
theorem d_J6_bitCount_0f7a4_42 : decode M_J6_bitCount_0f7a4.2.1 42 = .ok (.iload_n 0, 1) := by decide +kernel
theorem d_J6_bitCount_0f7a4_43 : decode M_J6_bitCount_0f7a4.2.1 43 = .ok (.bipush 16, 2) := by decide +kernel
theorem d_J6_bitCount_0f7a4_45 : decode M_J6_bitCount_0f7a4.2.1 45 = .ok (.iushr, 1) := by decide +kernel
theorem d_J6_bitCount_0f7a4_46 : decode M_J6_bitCount_0f7a4.2.1 46 = .ok (.iadd, 1) := by decide +kernel
theorem d_J6_bitCount_0f7a4_47 : decode M_J6_bitCount_0f7a4.2.1 47 = .ok (.istore_n 0, 1) := by decide +kernel
theorem d_J6_bitCount_0f7a4_48 : decode M_J6_bitCount_0f7a4.2.1 48 = .ok (.iload_n 0, 1) := by decide +kernel
theorem d_J6_bitCount_0f7a4_49 : decode M_J6_bitCount_0f7a4.2.1 49 = .ok (.bipush 63, 2) := by decide +kernel
theorem d_J6_bitCount_0f7a4_51 : decode M_J6_bitCount_0f7a4.2.1 51 = .ok (.iand, 1) := by decide +kernel
theorem d_J6_bitCount_0f7a4_52 : decode M_J6_bitCount_0f7a4.2.1 52 = .ok (.ireturn, 1) := by decide +kernel
theorem ce_J6_bitCount_0f7a4 : zw_CeS M_J6_bitCount_0f7a4 1 := ⟨⟨⟨by decide +kernel, by decide +kernel, by decide +kernel⟩, (zw_mG (List.mem_of_getElem? (i := 1129) (by decide +kernel)) rfl), (zw_mG (List.mem_of_getElem? (i := 115) (by decide +kernel)) rfl), by decide, by decide +kernel⟩, (zw_mG (List.mem_of_getElem? (i := 1128) (by decide +kernel)) rfl)⟩
def f_J6_bitCount_0f7a4 (v0 : Int32)  : Option (Int32) :=
  zw_let ((v0 - (((Int32.toUInt32 v0 >>> (Int32.toUInt32 1 &&& Int32.toUInt32 31)).toInt32) &&& 1431655765)) : Int32) fun x1 => (zw_let (((x1 &&& 858993459) + (((Int32.toUInt32 x1 >>> (Int32.toUInt32 2 &&& Int32.toUInt32 31)).toInt32) &&& 858993459)) : Int32) fun x2 => (zw_let (((x2 + ((Int32.toUInt32 x2 >>> (Int32.toUInt32 4 &&& Int32.toUInt32 31)).toInt32)) &&& 252645135) : Int32) fun x3 => (zw_let ((x3 + ((Int32.toUInt32 x3 >>> (Int32.toUInt32 8 &&& Int32.toUInt32 31)).toInt32)) : Int32) fun x4 => (zw_let ((x4 + ((Int32.toUInt32 x4 >>> (Int32.toUInt32 16 &&& Int32.toUInt32 31)).toInt32)) : Int32) fun x5 => (some (x5 &&& 63))))))
theorem c_J6_bitCount_0f7a4 (X : zw_X) (v0 : Int32) (I : zI) (R : zR) (J : zJ) {P : Option Value → aS → Prop} (o : Int32) (hf : f_J6_bitCount_0f7a4 v0  = some o) (hk : P (some (.int o)) (I, R, J)) : zw_C X M_J6_bitCount_0f7a4 0 0 0 199 [.int v0] (I, R, J) P := by
  show zy_V X M_J6_bitCount_0f7a4 0 P 0 [.int v0] [] (I, R, J)
  unfold f_J6_bitCount_0f7a4 at hf
  refine zv_iload_n (pc := 0) d_J6_bitCount_0f7a4_0 rfl ?_
  refine zv_iload_n (pc := 1) d_J6_bitCount_0f7a4_1 rfl ?_
  refine zv_iconst (pc := 2) d_J6_bitCount_0f7a4_2 zc_i_1 ?_
  refine zv_iushr (pc := 3) d_J6_bitCount_0f7a4_3 ?_
  refine zv_ldcw (pc := 4) (v := 1431655765) d_J6_bitCount_0f7a4_4 (zw_mG (List.mem_of_getElem? (i := 1130) (by decide +kernel)) rfl) ?_
  refine zv_iand (pc := 7) d_J6_bitCount_0f7a4_7 ?_
  refine zv_isub (pc := 8) d_J6_bitCount_0f7a4_8 ?_
  obtain ⟨x1, ex1, hf⟩ := zw_letE hf
  refine zx_istore_n (pc := 9) (x2 := x1) (L2 := [.int x1]) d_J6_bitCount_0f7a4_9 (by decide) ex1 rfl ?_
  refine zv_iload_n (pc := 10) d_J6_bitCount_0f7a4_10 rfl ?_
  refine zv_ldcw (pc := 11) (v := 858993459) d_J6_bitCount_0f7a4_11 (zw_mG (List.mem_of_getElem? (i := 1131) (by decide +kernel)) rfl) ?_
  refine zv_iand (pc := 14) d_J6_bitCount_0f7a4_14 ?_
  refine zv_iload_n (pc := 15) d_J6_bitCount_0f7a4_15 rfl ?_
  refine zv_iconst (pc := 16) d_J6_bitCount_0f7a4_16 zc_i_2 ?_
  refine zv_iushr (pc := 17) d_J6_bitCount_0f7a4_17 ?_
  refine zv_ldcw (pc := 18) (v := 858993459) d_J6_bitCount_0f7a4_18 (zw_mG (List.mem_of_getElem? (i := 1131) (by decide +kernel)) rfl) ?_
  refine zv_iand (pc := 21) d_J6_bitCount_0f7a4_21 ?_
  refine zv_iadd (pc := 22) d_J6_bitCount_0f7a4_22 ?_
  obtain ⟨x2, ex2, hf⟩ := zw_letE hf
  refine zx_istore_n (pc := 23) (x2 := x2) (L2 := [.int x2]) d_J6_bitCount_0f7a4_23 (by decide) ex2 rfl ?_
  refine zv_iload_n (pc := 24) d_J6_bitCount_0f7a4_24 rfl ?_
  refine zv_iload_n (pc := 25) d_J6_bitCount_0f7a4_25 rfl ?_
  refine zv_iconst (pc := 26) d_J6_bitCount_0f7a4_26 zc_i_4 ?_
  refine zv_iushr (pc := 27) d_J6_bitCount_0f7a4_27 ?_
  refine zv_iadd (pc := 28) d_J6_bitCount_0f7a4_28 ?_
  refine zv_ldcw (pc := 29) (v := 252645135) d_J6_bitCount_0f7a4_29 (zw_mG (List.mem_of_getElem? (i := 1132) (by decide +kernel)) rfl) ?_
  refine zv_iand (pc := 32) d_J6_bitCount_0f7a4_32 ?_
  obtain ⟨x3, ex3, hf⟩ := zw_letE hf
  refine zx_istore_n (pc := 33) (x2 := x3) (L2 := [.int x3]) d_J6_bitCount_0f7a4_33 (by decide) ex3 rfl ?_
  refine zv_iload_n (pc := 34) d_J6_bitCount_0f7a4_34 rfl ?_
  refine zv_iload_n (pc := 35) d_J6_bitCount_0f7a4_35 rfl ?_
  refine zv_bipush (pc := 36) d_J6_bitCount_0f7a4_36 zc_b_8 ?_
  refine zv_iushr (pc := 38) d_J6_bitCount_0f7a4_38 ?_
  refine zv_iadd (pc := 39) d_J6_bitCount_0f7a4_39 ?_
  obtain ⟨x4, ex4, hf⟩ := zw_letE hf
  refine zx_istore_n (pc := 40) (x2 := x4) (L2 := [.int x4]) d_J6_bitCount_0f7a4_40 (by decide) ex4 rfl ?_
  refine zv_iload_n (pc := 41) d_J6_bitCount_0f7a4_41 rfl ?_
  refine zv_iload_n (pc := 42) d_J6_bitCount_0f7a4_42 rfl ?_
  refine zv_bipush (pc := 43) d_J6_bitCount_0f7a4_43 zc_b_16 ?_
  refine zv_iushr (pc := 45) d_J6_bitCount_0f7a4_45 ?_
  refine zv_iadd (pc := 46) d_J6_bitCount_0f7a4_46 ?_
  obtain ⟨x5, ex5, hf⟩ := zw_letE hf
  refine zx_istore_n (pc := 47) (x2 := x5) (L2 := [.int x5]) d_J6_bitCount_0f7a4_47 (by decide) ex5 rfl ?_
  refine zv_iload_n (pc := 48) d_J6_bitCount_0f7a4_48 rfl ?_
  refine zv_bipush (pc := 49) d_J6_bitCount_0f7a4_49 zc_b_63 ?_
  refine zv_iand (pc := 51) d_J6_bitCount_0f7a4_51 ?_
  cases hf
  exact zx_iret (pc := 52) d_J6_bitCount_0f7a4_52 rfl hk
abbrev M_J7_fill_53178 : zw_M := (⟨"java/util/Arrays", "fill", "([II)V"⟩, prog_20_method_103_code, 4, (Option.none : Option Jvm.ClassFile.FieldType))
theorem d_J7_fill_53178_0 : decode M_J7_fill_53178.2.1 0 = .ok (.iconst 0, 1) := by decide +kernel
theorem d_J7_fill_53178_1 : decode M_J7_fill_53178.2.1 1 = .ok (.istore_n 2, 1) := by decide +kernel
theorem d_J7_fill_53178_2 : decode M_J7_fill_53178.2.1 2 = .ok (.aload_n 0, 1) := by decide +kernel
theorem d_J7_fill_53178_3 : decode M_J7_fill_53178.2.1 3 = .ok (.arraylength, 1) := by decide +kernel
theorem d_J7_fill_53178_4 : decode M_J7_fill_53178.2.1 4 = .ok (.istore_n 3, 1) := by decide +kernel
theorem d_J7_fill_53178_5 : decode M_J7_fill_53178.2.1 5 = .ok (.iload_n 2, 1) := by decide +kernel
theorem d_J7_fill_53178_6 : decode M_J7_fill_53178.2.1 6 = .ok (.iload_n 3, 1) := by decide +kernel
theorem d_J7_fill_53178_7 : decode M_J7_fill_53178.2.1 7 = .ok (.if_icmp .ge 13, 3) := by decide +kernel
theorem d_J7_fill_53178_10 : decode M_J7_fill_53178.2.1 10 = .ok (.aload_n 0, 1) := by decide +kernel
theorem d_J7_fill_53178_11 : decode M_J7_fill_53178.2.1 11 = .ok (.iload_n 2, 1) := by decide +kernel
theorem d_J7_fill_53178_12 : decode M_J7_fill_53178.2.1 12 = .ok (.iload_n 1, 1) := by decide +kernel
theorem d_J7_fill_53178_13 : decode M_J7_fill_53178.2.1 13 = .ok (.iastore, 1) := by decide +kernel
theorem d_J7_fill_53178_14 : decode M_J7_fill_53178.2.1 14 = .ok (.iinc 2 1, 3) := by decide +kernel
theorem d_J7_fill_53178_17 : decode M_J7_fill_53178.2.1 17 = .ok (.goto (-12), 3) := by decide +kernel
theorem d_J7_fill_53178_20 : decode M_J7_fill_53178.2.1 20 = .ok (.return_, 1) := by decide +kernel
theorem ce_J7_fill_53178 : zw_CeS M_J7_fill_53178 2 := ⟨⟨⟨by decide +kernel, by decide +kernel, by decide +kernel⟩, (zw_mG (List.mem_of_getElem? (i := 480) (by decide +kernel)) rfl), (zw_mG (List.mem_of_getElem? (i := 107) (by decide +kernel)) rfl), by decide, by decide +kernel⟩, (zw_mG (List.mem_of_getElem? (i := 479) (by decide +kernel)) rfl)⟩
def s_J7_fill_53178_5 (v0 : Nat) (v1 : Int32) (v3 : Int32)  (s : Int32 × zI) : Option ((Int32 × zI) ⊕ (zI)) :=
  if v3 ≤ s.1 then some (.inr s.2) else zw_g (zw_gc v0 13) (zw_g (zw_in s.1 (zw_SH v0).2) (zw_let (zw_u s.2 v0 (Int32.toNatClampNeg s.1) v1 : zI) fun I6 => (zw_let (s.1 + 1 : Int32) fun x7 => (some (.inl (x7, I6))))))
theorem s_J7_fill_53178_5_ok (X : zw_X) (P : Option Value → aS → Prop) (v0 : Nat) (v1 : Int32) (v3 : Int32) (R : zR) (J : zJ) (s : Int32 × zI) (o : (Int32 × zI) ⊕ (zI)) (hf : s_J7_fill_53178_5 v0 v1 v3 s = some o) (hk : (zw_se (fun t => zy_V X M_J7_fill_53178 0 P 5 [.ref v0, .int v1, .int t.1, .int v3] [] (t.2, R, J)) (fun r => zy_V X M_J7_fill_53178 0 P 20 [.null, .null, .null, .null] [] (r, R, J)) o)) : zy_V X M_J7_fill_53178 0 P 5 [.ref v0, .int v1, .int s.1, .int v3] [] (s.2, R, J) := by
  unfold s_J7_fill_53178_5 at hf
  refine zv_iload_n (pc := 5) d_J7_fill_53178_5 rfl ?_
  refine zv_iload_n (pc := 6) d_J7_fill_53178_6 rfl ?_
  rcases zw_ifE hf with ⟨c3, hf⟩ | ⟨c3, hf⟩
  · refine zv_icmp_ge (pc := 7) (tg := 20) d_J7_fill_53178_7 (by decide) (fun _ => ?_) (fun q => absurd c3 q)
    cases hf
    exact zx_weak (zw_leN (zw_leN (zw_leN (zw_leN zw_leZ)))) hk
  · refine zv_icmp_ge (pc := 7) (tg := 20) d_J7_fill_53178_7 (by decide) (fun q => absurd q c3) (fun _ => ?_)
    refine zv_aload_n (pc := 10) d_J7_fill_53178_10 rfl ?_
    refine zv_iload_n (pc := 11) d_J7_fill_53178_11 rfl ?_
    refine zv_iload_n (pc := 12) d_J7_fill_53178_12 rfl ?_
    obtain ⟨g4, hf⟩ := zw_gcE hf (by decide)
    obtain ⟨i5, hf⟩ := zw_inE hf
    obtain ⟨I6, eI6, hf⟩ := zw_letE hf
    refine zx_iast (pc := 13) (I2 := I6) d_J7_fill_53178_13 g4 i5 eI6 ?_
    obtain ⟨x7, ex7, hf⟩ := zw_letE hf
    refine zx_iinc (pc := 14) (x2 := x7) (L2 := [.ref v0, .int v1, .int x7, .int v3]) d_J7_fill_53178_14 (by decide) rfl zc_i_1 ex7 rfl ?_
    refine zv_goto (pc := 17) (tg := 5) d_J7_fill_53178_17 (by decide) ?_
    cases hf
    exact zx_weak (zw_leS (zw_leS (zw_leS (zw_leS zw_leZ)))) hk
theorem s_J7_fill_53178_5_lp (X : zw_X) (P : Option Value → aS → Prop) (v0 : Nat) (v1 : Int32) (v3 : Int32) (R : zR) (J : zJ) (n : Nat) (s : Int32 × zI) (r : zI) (h : zw_it (s_J7_fill_53178_5 v0 v1 v3) n s = some r) (hq : zy_V X M_J7_fill_53178 0 P 20 [.null, .null, .null, .null] [] (r, R, J)) : zy_V X M_J7_fill_53178 0 P 5 [.ref v0, .int v1, .int s.1, .int v3] [] (s.2, R, J) :=
  zw_itE (A := (fun t : Int32 × zI => zy_V X M_J7_fill_53178 0 P 5 [.ref v0, .int v1, .int t.1, .int v3] [] (t.2, R, J))) (Q := (fun r : zI => zy_V X M_J7_fill_53178 0 P 20 [.null, .null, .null, .null] [] (r, R, J))) (fun s o h1 h2 => s_J7_fill_53178_5_ok X P v0 v1 v3 R J s o h1 h2) n s r h hq
def f_J7_fill_53178 (v0 : Nat) (v1 : Int32) (I : zI) : Option (zI) :=
  zw_g (zw_gc v0 13) (zw_let ((Int32.ofNat (zw_SH v0).2) : Int32) fun x2 => ((zw_it (s_J7_fill_53178_5 v0 v1 x2) 1000000 (0, I)).bind fun q8 => (some q8)))
theorem c_J7_fill_53178 (X : zw_X) (v0 : Nat) (v1 : Int32) (I : zI) (R : zR) (J : zJ) {P : Option Value → aS → Prop} (o : zI) (hf : f_J7_fill_53178 v0 v1 I = some o) (hk : P none (o, R, J)) : zw_C X M_J7_fill_53178 0 0 0 199 [.ref v0, .int v1] (I, R, J) P := by
  show zy_V X M_J7_fill_53178 0 P 0 [.ref v0, .int v1, .null, .null] [] (I, R, J)
  unfold f_J7_fill_53178 at hf
  refine zv_iconst (pc := 0) d_J7_fill_53178_0 zc_i_0 ?_
  refine zx_istore_n (pc := 1) (x2 := 0) (L2 := [.ref v0, .int v1, .int 0, .null]) d_J7_fill_53178_1 (by decide) rfl rfl ?_
  refine zv_aload_n (pc := 2) d_J7_fill_53178_2 rfl ?_
  obtain ⟨g1, hf⟩ := zw_gcE hf (by decide)
  refine zx_alen (pc := 3) d_J7_fill_53178_3 g1 ?_
  obtain ⟨x2, ex2, hf⟩ := zw_letE hf
  refine zx_istore_n (pc := 4) (x2 := x2) (L2 := [.ref v0, .int v1, .int 0, .int x2]) d_J7_fill_53178_4 (by decide) ex2 rfl ?_
  obtain ⟨q8, hq8, hf⟩ := zw_bdE hf
  refine zx_weak (L' := [.ref v0, .int v1, .int 0, .int x2]) (zw_leS (zw_leS (zw_leS (zw_leS zw_leZ)))) (s_J7_fill_53178_5_lp X P v0 v1 x2 R J _ _ _ hq8 ?_)
  show zy_V X M_J7_fill_53178 0 P 20 [.null, .null, .null, .null] [] (q8, R, J)
  cases hf
  exact zx_vret (pc := 20) d_J7_fill_53178_20 rfl hk
abbrev M_X0_cellAt : zw_M := (⟨"CutStones$Drawing", "cellAt", "(II)I"⟩, prog_2_method_6_code, 3, (Option.some Jvm.ClassFile.FieldType.int))
theorem d_X0_cellAt_0 : decode M_X0_cellAt.2.1 0 = .ok (.iload_n 1, 1) := by decide +kernel
theorem d_X0_cellAt_1 : decode M_X0_cellAt.2.1 1 = .ok (.ifCond .lt 37, 3) := by decide +kernel
theorem d_X0_cellAt_4 : decode M_X0_cellAt.2.1 4 = .ok (.iload_n 1, 1) := by decide +kernel
theorem d_X0_cellAt_5 : decode M_X0_cellAt.2.1 5 = .ok (.aload_n 0, 1) := by decide +kernel
theorem d_X0_cellAt_6 : decode M_X0_cellAt.2.1 6 = .ok (.getfield 15, 3) := by decide +kernel
theorem d_X0_cellAt_9 : decode M_X0_cellAt.2.1 9 = .ok (.if_icmp .ge 29, 3) := by decide +kernel
theorem d_X0_cellAt_12 : decode M_X0_cellAt.2.1 12 = .ok (.iload_n 2, 1) := by decide +kernel
theorem d_X0_cellAt_13 : decode M_X0_cellAt.2.1 13 = .ok (.ifCond .lt 25, 3) := by decide +kernel
theorem d_X0_cellAt_16 : decode M_X0_cellAt.2.1 16 = .ok (.iload_n 2, 1) := by decide +kernel
theorem d_X0_cellAt_17 : decode M_X0_cellAt.2.1 17 = .ok (.aload_n 0, 1) := by decide +kernel
theorem d_X0_cellAt_18 : decode M_X0_cellAt.2.1 18 = .ok (.getfield 19, 3) := by decide +kernel
theorem d_X0_cellAt_21 : decode M_X0_cellAt.2.1 21 = .ok (.if_icmp .ge 17, 3) := by decide +kernel
theorem d_X0_cellAt_24 : decode M_X0_cellAt.2.1 24 = .ok (.aload_n 0, 1) := by decide +kernel
theorem d_X0_cellAt_25 : decode M_X0_cellAt.2.1 25 = .ok (.getfield 9, 3) := by decide +kernel
theorem d_X0_cellAt_28 : decode M_X0_cellAt.2.1 28 = .ok (.bipush 12, 2) := by decide +kernel
theorem d_X0_cellAt_30 : decode M_X0_cellAt.2.1 30 = .ok (.iload_n 2, 1) := by decide +kernel
theorem d_X0_cellAt_31 : decode M_X0_cellAt.2.1 31 = .ok (.imul, 1) := by decide +kernel
theorem d_X0_cellAt_32 : decode M_X0_cellAt.2.1 32 = .ok (.iload_n 1, 1) := by decide +kernel
theorem d_X0_cellAt_33 : decode M_X0_cellAt.2.1 33 = .ok (.iadd, 1) := by decide +kernel
theorem d_X0_cellAt_34 : decode M_X0_cellAt.2.1 34 = .ok (.iaload, 1) := by decide +kernel
theorem d_X0_cellAt_35 : decode M_X0_cellAt.2.1 35 = .ok (.goto 4, 3) := by decide +kernel
theorem d_X0_cellAt_38 : decode M_X0_cellAt.2.1 38 = .ok (.iconst 0, 1) := by decide +kernel
theorem d_X0_cellAt_39 : decode M_X0_cellAt.2.1 39 = .ok (.ireturn, 1) := by decide +kernel
theorem ce_X0_cellAt : zw_CeV M_X0_cellAt 2 := ⟨⟨⟨by decide +kernel, by decide +kernel, by decide +kernel⟩, (zw_mG (List.mem_of_getElem? (i := 757) (by decide +kernel)) rfl), (zw_mG (List.mem_of_getElem? (i := 101) (by decide +kernel)) rfl), by decide, by decide +kernel⟩, (zw_mG (List.mem_of_getElem? (i := 755) (by decide +kernel)) rfl), (zw_mG (List.mem_of_getElem? (i := 756) (by decide +kernel)) rfl)⟩
def f_X0_cellAt (v0 : Nat) (v1 : Int32) (v2 : Int32) (I : zI) (R : zR) : Option (Int32) :=
  if v1 < 0 then some 0 else zw_g (zw_gc v0 0) (if (I v0 1) ≤ v1 then some 0 else if v2 < 0 then some 0 else if (I v0 2) ≤ v2 then some 0 else zw_g (zw_gc (R v0 0) 13) (zw_g (zw_in ((12 * v2) + v1) (zw_SH (R v0 0)).2) (some (I (R v0 0) (Int32.toNatClampNeg ((12 * v2) + v1))))))
theorem c_X0_cellAt (X : zw_X) (v0 : Nat) (v1 : Int32) (v2 : Int32) (I : zI) (R : zR) (J : zJ) {P : Option Value → aS → Prop} (o : Int32) (hf : f_X0_cellAt v0 v1 v2 I R = some o) (hk : P (some (.int o)) (I, R, J)) : zw_C X M_X0_cellAt 0 0 0 199 [.ref v0, .int v1, .int v2] (I, R, J) P := by
  show zy_V X M_X0_cellAt 0 P 0 [.ref v0, .int v1, .int v2] [] (I, R, J)
  unfold f_X0_cellAt at hf
  refine zv_iload_n (pc := 0) d_X0_cellAt_0 rfl ?_
  rcases zw_ifE hf with ⟨c1, hf⟩ | ⟨c1, hf⟩
  · refine zv_if_lt (pc := 1) (tg := 38) d_X0_cellAt_1 (by decide) (fun _ => ?_) (fun q => absurd c1 q)
    refine zv_iconst (pc := 38) d_X0_cellAt_38 zc_i_0 ?_
    cases hf
    exact zx_iret (pc := 39) d_X0_cellAt_39 rfl hk
  · refine zv_if_lt (pc := 1) (tg := 38) d_X0_cellAt_1 (by decide) (fun q => absurd q c1) (fun _ => ?_)
    refine zv_iload_n (pc := 4) d_X0_cellAt_4 rfl ?_
    refine zv_aload_n (pc := 5) d_X0_cellAt_5 rfl ?_
    obtain ⟨g2, hf⟩ := zw_gcE hf (by decide)
    refine zx_getI (pc := 6) d_X0_cellAt_6 lk_CutStones_Drawing_15 (by decide) g2 ?_
    rcases zw_ifE hf with ⟨c3, hf⟩ | ⟨c3, hf⟩
    · refine zv_icmp_ge (pc := 9) (tg := 38) d_X0_cellAt_9 (by decide) (fun _ => ?_) (fun q => absurd c3 q)
      refine zv_iconst (pc := 38) d_X0_cellAt_38 zc_i_0 ?_
      cases hf
      exact zx_iret (pc := 39) d_X0_cellAt_39 rfl hk
    · refine zv_icmp_ge (pc := 9) (tg := 38) d_X0_cellAt_9 (by decide) (fun q => absurd q c3) (fun _ => ?_)
      refine zv_iload_n (pc := 12) d_X0_cellAt_12 rfl ?_
      rcases zw_ifE hf with ⟨c4, hf⟩ | ⟨c4, hf⟩
      · refine zv_if_lt (pc := 13) (tg := 38) d_X0_cellAt_13 (by decide) (fun _ => ?_) (fun q => absurd c4 q)
        refine zv_iconst (pc := 38) d_X0_cellAt_38 zc_i_0 ?_
        cases hf
        exact zx_iret (pc := 39) d_X0_cellAt_39 rfl hk
      · refine zv_if_lt (pc := 13) (tg := 38) d_X0_cellAt_13 (by decide) (fun q => absurd q c4) (fun _ => ?_)
        refine zv_iload_n (pc := 16) d_X0_cellAt_16 rfl ?_
        refine zv_aload_n (pc := 17) d_X0_cellAt_17 rfl ?_
        refine zx_getI (pc := 18) d_X0_cellAt_18 lk_CutStones_Drawing_19 (by decide) g2 ?_
        rcases zw_ifE hf with ⟨c5, hf⟩ | ⟨c5, hf⟩
        · refine zv_icmp_ge (pc := 21) (tg := 38) d_X0_cellAt_21 (by decide) (fun _ => ?_) (fun q => absurd c5 q)
          refine zv_iconst (pc := 38) d_X0_cellAt_38 zc_i_0 ?_
          cases hf
          exact zx_iret (pc := 39) d_X0_cellAt_39 rfl hk
        · refine zv_icmp_ge (pc := 21) (tg := 38) d_X0_cellAt_21 (by decide) (fun q => absurd q c5) (fun _ => ?_)
          refine zv_aload_n (pc := 24) d_X0_cellAt_24 rfl ?_
          obtain ⟨g6, hf⟩ := zw_gcE hf (by decide)
          refine zx_getR (pc := 25) d_X0_cellAt_25 lk_CutStones_Drawing_9 (by decide) g2 g6 ?_
          refine zv_bipush (pc := 28) d_X0_cellAt_28 zc_b_12 ?_
          refine zv_iload_n (pc := 30) d_X0_cellAt_30 rfl ?_
          refine zv_imul (pc := 31) d_X0_cellAt_31 ?_
          refine zv_iload_n (pc := 32) d_X0_cellAt_32 rfl ?_
          refine zv_iadd (pc := 33) d_X0_cellAt_33 ?_
          obtain ⟨i7, hf⟩ := zw_inE hf
          refine zx_iald (pc := 34) d_X0_cellAt_34 g6 i7 ?_
          refine zv_goto (pc := 35) (tg := 39) d_X0_cellAt_35 (by decide) ?_
          cases hf
          exact zx_iret (pc := 39) d_X0_cellAt_39 rfl hk
abbrev M_X0_empty : zw_M := (⟨"CutStones$Drawing", "empty", "()V"⟩, prog_2_method_2_code, 1, (Option.none : Option Jvm.ClassFile.FieldType))
theorem d_X0_empty_0 : decode M_X0_empty.2.1 0 = .ok (.aload_n 0, 1) := by decide +kernel
theorem d_X0_empty_1 : decode M_X0_empty.2.1 1 = .ok (.iconst 0, 1) := by decide +kernel
theorem d_X0_empty_2 : decode M_X0_empty.2.1 2 = .ok (.putfield 15, 3) := by decide +kernel
theorem d_X0_empty_5 : decode M_X0_empty.2.1 5 = .ok (.aload_n 0, 1) := by decide +kernel
theorem d_X0_empty_6 : decode M_X0_empty.2.1 6 = .ok (.iconst 0, 1) := by decide +kernel
theorem d_X0_empty_7 : decode M_X0_empty.2.1 7 = .ok (.putfield 19, 3) := by decide +kernel
theorem d_X0_empty_10 : decode M_X0_empty.2.1 10 = .ok (.return_, 1) := by decide +kernel
theorem ce_X0_empty : zw_CeV M_X0_empty 0 := ⟨⟨⟨by decide +kernel, by decide +kernel, by decide +kernel⟩, (zw_mG (List.mem_of_getElem? (i := 718) (by decide +kernel)) rfl), (zw_mG (List.mem_of_getElem? (i := 101) (by decide +kernel)) rfl), by decide, by decide +kernel⟩, (zw_mG (List.mem_of_getElem? (i := 716) (by decide +kernel)) rfl), (zw_mG (List.mem_of_getElem? (i := 717) (by decide +kernel)) rfl)⟩
def f_X0_empty (v0 : Nat) (I : zI) : Option (zI) :=
  zw_g (zw_gc v0 0) (zw_let (zw_u I v0 1 0 : zI) fun I2 => (zw_let (zw_u I2 v0 2 0 : zI) fun I3 => (some I3)))
theorem c_X0_empty (X : zw_X) (v0 : Nat) (I : zI) (R : zR) (J : zJ) {P : Option Value → aS → Prop} (o : zI) (hf : f_X0_empty v0 I = some o) (hk : P none (o, R, J)) : zw_C X M_X0_empty 0 0 0 199 [.ref v0] (I, R, J) P := by
  show zy_V X M_X0_empty 0 P 0 [.ref v0] [] (I, R, J)
  unfold f_X0_empty at hf
  refine zv_aload_n (pc := 0) d_X0_empty_0 rfl ?_
  refine zv_iconst (pc := 1) d_X0_empty_1 zc_i_0 ?_
  obtain ⟨g1, hf⟩ := zw_gcE hf (by decide)
  obtain ⟨I2, eI2, hf⟩ := zw_letE hf
  refine zx_putI (pc := 2) (I2 := I2) d_X0_empty_2 lk_CutStones_Drawing_15 rfl g1 eI2 ?_
  refine zv_aload_n (pc := 5) d_X0_empty_5 rfl ?_
  refine zv_iconst (pc := 6) d_X0_empty_6 zc_i_0 ?_
  obtain ⟨I3, eI3, hf⟩ := zw_letE hf
  refine zx_putI (pc := 7) (I2 := I3) d_X0_empty_7 lk_CutStones_Drawing_19 rfl g1 eI3 ?_
  cases hf
  exact zx_vret (pc := 10) d_X0_empty_10 rfl hk
abbrev M_X0_hasLamp : zw_M := (⟨"CutStones$Drawing", "hasLamp", "(II)Z"⟩, prog_2_method_7_code, 3, (Option.some Jvm.ClassFile.FieldType.boolean))
theorem d_X0_hasLamp_0 : decode M_X0_hasLamp.2.1 0 = .ok (.iload_n 1, 1) := by decide +kernel
theorem d_X0_hasLamp_1 : decode M_X0_hasLamp.2.1 1 = .ok (.ifCond .ne 21, 3) := by decide +kernel
theorem d_X0_hasLamp_4 : decode M_X0_hasLamp.2.1 4 = .ok (.iload_n 2, 1) := by decide +kernel
theorem d_X0_hasLamp_5 : decode M_X0_hasLamp.2.1 5 = .ok (.ifCond .lt 15, 3) := by decide +kernel
theorem d_X0_hasLamp_8 : decode M_X0_hasLamp.2.1 8 = .ok (.iload_n 2, 1) := by decide +kernel
theorem d_X0_hasLamp_9 : decode M_X0_hasLamp.2.1 9 = .ok (.aload_n 0, 1) := by decide +kernel
theorem d_X0_hasLamp_10 : decode M_X0_hasLamp.2.1 10 = .ok (.getfield 15, 3) := by decide +kernel
theorem d_X0_hasLamp_13 : decode M_X0_hasLamp.2.1 13 = .ok (.if_icmp .ge 7, 3) := by decide +kernel
theorem d_X0_hasLamp_16 : decode M_X0_hasLamp.2.1 16 = .ok (.iconst 1, 1) := by decide +kernel
theorem d_X0_hasLamp_17 : decode M_X0_hasLamp.2.1 17 = .ok (.goto 4, 3) := by decide +kernel
theorem d_X0_hasLamp_20 : decode M_X0_hasLamp.2.1 20 = .ok (.iconst 0, 1) := by decide +kernel
theorem d_X0_hasLamp_21 : decode M_X0_hasLamp.2.1 21 = .ok (.ireturn, 1) := by decide +kernel
theorem d_X0_hasLamp_22 : decode M_X0_hasLamp.2.1 22 = .ok (.iload_n 1, 1) := by decide +kernel
theorem d_X0_hasLamp_23 : decode M_X0_hasLamp.2.1 23 = .ok (.iconst 1, 1) := by decide +kernel
theorem d_X0_hasLamp_24 : decode M_X0_hasLamp.2.1 24 = .ok (.if_icmp .eq 8, 3) := by decide +kernel
theorem d_X0_hasLamp_27 : decode M_X0_hasLamp.2.1 27 = .ok (.iload_n 1, 1) := by decide +kernel
theorem d_X0_hasLamp_28 : decode M_X0_hasLamp.2.1 28 = .ok (.iconst 3, 1) := by decide +kernel
theorem d_X0_hasLamp_29 : decode M_X0_hasLamp.2.1 29 = .ok (.if_icmp .ne 19, 3) := by decide +kernel
theorem d_X0_hasLamp_32 : decode M_X0_hasLamp.2.1 32 = .ok (.iload_n 2, 1) := by decide +kernel
theorem d_X0_hasLamp_33 : decode M_X0_hasLamp.2.1 33 = .ok (.ifCond .lt 15, 3) := by decide +kernel
theorem d_X0_hasLamp_36 : decode M_X0_hasLamp.2.1 36 = .ok (.iload_n 2, 1) := by decide +kernel
theorem d_X0_hasLamp_37 : decode M_X0_hasLamp.2.1 37 = .ok (.aload_n 0, 1) := by decide +kernel
theorem d_X0_hasLamp_38 : decode M_X0_hasLamp.2.1 38 = .ok (.getfield 19, 3) := by decide +kernel
theorem d_X0_hasLamp_41 : decode M_X0_hasLamp.2.1 41 = .ok (.if_icmp .ge 7, 3) := by decide +kernel
theorem d_X0_hasLamp_44 : decode M_X0_hasLamp.2.1 44 = .ok (.iconst 1, 1) := by decide +kernel
theorem d_X0_hasLamp_45 : decode M_X0_hasLamp.2.1 45 = .ok (.goto 4, 3) := by decide +kernel
theorem d_X0_hasLamp_48 : decode M_X0_hasLamp.2.1 48 = .ok (.iconst 0, 1) := by decide +kernel
theorem d_X0_hasLamp_49 : decode M_X0_hasLamp.2.1 49 = .ok (.ireturn, 1) := by decide +kernel
theorem ce_X0_hasLamp : zw_CeV M_X0_hasLamp 2 := ⟨⟨⟨by decide +kernel, by decide +kernel, by decide +kernel⟩, (zw_mG (List.mem_of_getElem? (i := 890) (by decide +kernel)) rfl), (zw_mG (List.mem_of_getElem? (i := 101) (by decide +kernel)) rfl), by decide, by decide +kernel⟩, (zw_mG (List.mem_of_getElem? (i := 888) (by decide +kernel)) rfl), (zw_mG (List.mem_of_getElem? (i := 889) (by decide +kernel)) rfl)⟩
def j_X0_hasLamp_32 (v0 : Nat) (v2 : Int32) (I : zI) : Option (Int32) :=
  if v2 < 0 then some 0 else zw_g (zw_gc v0 0) (if (I v0 2) ≤ v2 then some 0 else some 1)
theorem j_X0_hasLamp_32_ok (X : zw_X) (P : Option Value → aS → Prop) (v0 : Nat) (v2 : Int32) (I : zI) (R : zR) (J : zJ) (o : Int32) (hf : j_X0_hasLamp_32 v0 v2 I = some o) (hk : P (some (.int o)) (I, R, J)) : zy_V X M_X0_hasLamp 0 P 32 [.ref v0, .null, .int v2] [] (I, R, J) := by
  unfold j_X0_hasLamp_32 at hf
  refine zv_iload_n (pc := 32) d_X0_hasLamp_32 rfl ?_
  rcases zw_ifE hf with ⟨c3, hf⟩ | ⟨c3, hf⟩
  · refine zv_if_lt (pc := 33) (tg := 48) d_X0_hasLamp_33 (by decide) (fun _ => ?_) (fun q => absurd c3 q)
    refine zv_iconst (pc := 48) d_X0_hasLamp_48 zc_i_0 ?_
    cases hf
    exact zx_zret (pc := 49) d_X0_hasLamp_49 rfl (Or.inl rfl) hk
  · refine zv_if_lt (pc := 33) (tg := 48) d_X0_hasLamp_33 (by decide) (fun q => absurd q c3) (fun _ => ?_)
    refine zv_iload_n (pc := 36) d_X0_hasLamp_36 rfl ?_
    refine zv_aload_n (pc := 37) d_X0_hasLamp_37 rfl ?_
    obtain ⟨g4, hf⟩ := zw_gcE hf (by decide)
    refine zx_getI (pc := 38) d_X0_hasLamp_38 lk_CutStones_Drawing_19 (by decide) g4 ?_
    rcases zw_ifE hf with ⟨c5, hf⟩ | ⟨c5, hf⟩
    · refine zv_icmp_ge (pc := 41) (tg := 48) d_X0_hasLamp_41 (by decide) (fun _ => ?_) (fun q => absurd c5 q)
      refine zv_iconst (pc := 48) d_X0_hasLamp_48 zc_i_0 ?_
      cases hf
      exact zx_zret (pc := 49) d_X0_hasLamp_49 rfl (Or.inl rfl) hk
    · refine zv_icmp_ge (pc := 41) (tg := 48) d_X0_hasLamp_41 (by decide) (fun q => absurd q c5) (fun _ => ?_)
      refine zv_iconst (pc := 44) d_X0_hasLamp_44 zc_i_1 ?_
      refine zv_goto (pc := 45) (tg := 49) d_X0_hasLamp_45 (by decide) ?_
      cases hf
      exact zx_zret (pc := 49) d_X0_hasLamp_49 rfl (Or.inr rfl) hk
def f_X0_hasLamp (v0 : Nat) (v1 : Int32) (v2 : Int32) (I : zI) : Option (Int32) :=
  if ¬ v1 = 0 then if v1 = 1 then j_X0_hasLamp_32 v0 v2 I else if ¬ v1 = 3 then some 0 else j_X0_hasLamp_32 v0 v2 I else if v2 < 0 then some 0 else zw_g (zw_gc v0 0) (if (I v0 1) ≤ v2 then some 0 else some 1)
theorem c_X0_hasLamp (X : zw_X) (v0 : Nat) (v1 : Int32) (v2 : Int32) (I : zI) (R : zR) (J : zJ) {P : Option Value → aS → Prop} (o : Int32) (hf : f_X0_hasLamp v0 v1 v2 I = some o) (hk : P (some (.int o)) (I, R, J)) : zw_C X M_X0_hasLamp 0 0 0 199 [.ref v0, .int v1, .int v2] (I, R, J) P := by
  show zy_V X M_X0_hasLamp 0 P 0 [.ref v0, .int v1, .int v2] [] (I, R, J)
  unfold f_X0_hasLamp at hf
  refine zv_iload_n (pc := 0) d_X0_hasLamp_0 rfl ?_
  rcases zw_ifE hf with ⟨c1, hf⟩ | ⟨c1, hf⟩
  · refine zv_if_ne (pc := 1) (tg := 22) d_X0_hasLamp_1 (by decide) (fun _ => ?_) (fun q => absurd q c1)
    refine zv_iload_n (pc := 22) d_X0_hasLamp_22 rfl ?_
    refine zv_iconst (pc := 23) d_X0_hasLamp_23 zc_i_1 ?_
    rcases zw_ifE hf with ⟨c2, hf⟩ | ⟨c2, hf⟩
    · refine zv_icmp_eq (pc := 24) (tg := 32) d_X0_hasLamp_24 (by decide) (fun _ => ?_) (fun q => absurd c2 q)
      exact zx_weak (zw_leS (zw_leN (zw_leS zw_leZ))) (j_X0_hasLamp_32_ok X P v0 v2 I R J _ hf hk)
    · refine zv_icmp_eq (pc := 24) (tg := 32) d_X0_hasLamp_24 (by decide) (fun q => absurd q c2) (fun _ => ?_)
      refine zv_iload_n (pc := 27) d_X0_hasLamp_27 rfl ?_
      refine zv_iconst (pc := 28) d_X0_hasLamp_28 zc_i_3 ?_
      rcases zw_ifE hf with ⟨c6, hf⟩ | ⟨c6, hf⟩
      · refine zv_icmp_ne (pc := 29) (tg := 48) d_X0_hasLamp_29 (by decide) (fun _ => ?_) (fun q => absurd q c6)
        refine zv_iconst (pc := 48) d_X0_hasLamp_48 zc_i_0 ?_
        cases hf
        exact zx_zret (pc := 49) d_X0_hasLamp_49 rfl (Or.inl rfl) hk
      · refine zv_icmp_ne (pc := 29) (tg := 48) d_X0_hasLamp_29 (by decide) (fun q => absurd q c6) (fun _ => ?_)
        exact zx_weak (zw_leS (zw_leN (zw_leS zw_leZ))) (j_X0_hasLamp_32_ok X P v0 v2 I R J _ hf hk)
  · refine zv_if_ne (pc := 1) (tg := 22) d_X0_hasLamp_1 (by decide) (fun q => absurd q c1) (fun _ => ?_)
    refine zv_iload_n (pc := 4) d_X0_hasLamp_4 rfl ?_
    rcases zw_ifE hf with ⟨c7, hf⟩ | ⟨c7, hf⟩
    · refine zv_if_lt (pc := 5) (tg := 20) d_X0_hasLamp_5 (by decide) (fun _ => ?_) (fun q => absurd c7 q)
      refine zv_iconst (pc := 20) d_X0_hasLamp_20 zc_i_0 ?_
      cases hf
      exact zx_zret (pc := 21) d_X0_hasLamp_21 rfl (Or.inl rfl) hk
    · refine zv_if_lt (pc := 5) (tg := 20) d_X0_hasLamp_5 (by decide) (fun q => absurd q c7) (fun _ => ?_)
      refine zv_iload_n (pc := 8) d_X0_hasLamp_8 rfl ?_
      refine zv_aload_n (pc := 9) d_X0_hasLamp_9 rfl ?_
      obtain ⟨g8, hf⟩ := zw_gcE hf (by decide)
      refine zx_getI (pc := 10) d_X0_hasLamp_10 lk_CutStones_Drawing_15 (by decide) g8 ?_
      rcases zw_ifE hf with ⟨c9, hf⟩ | ⟨c9, hf⟩
      · refine zv_icmp_ge (pc := 13) (tg := 20) d_X0_hasLamp_13 (by decide) (fun _ => ?_) (fun q => absurd c9 q)
        refine zv_iconst (pc := 20) d_X0_hasLamp_20 zc_i_0 ?_
        cases hf
        exact zx_zret (pc := 21) d_X0_hasLamp_21 rfl (Or.inl rfl) hk
      · refine zv_icmp_ge (pc := 13) (tg := 20) d_X0_hasLamp_13 (by decide) (fun q => absurd q c9) (fun _ => ?_)
        refine zv_iconst (pc := 16) d_X0_hasLamp_16 zc_i_1 ?_
        refine zv_goto (pc := 17) (tg := 21) d_X0_hasLamp_17 (by decide) ?_
        cases hf
        exact zx_zret (pc := 21) d_X0_hasLamp_21 rfl (Or.inr rfl) hk
abbrev M_X0_hasPlace : zw_M := (⟨"CutStones$Drawing", "hasPlace", "(II)Z"⟩, prog_2_method_5_code, 3, (Option.some Jvm.ClassFile.FieldType.boolean))
theorem d_X0_hasPlace_0 : decode M_X0_hasPlace.2.1 0 = .ok (.iload_n 1, 1) := by decide +kernel
theorem d_X0_hasPlace_1 : decode M_X0_hasPlace.2.1 1 = .ok (.ifCond .lt 27, 3) := by decide +kernel
theorem d_X0_hasPlace_4 : decode M_X0_hasPlace.2.1 4 = .ok (.iload_n 1, 1) := by decide +kernel
theorem d_X0_hasPlace_5 : decode M_X0_hasPlace.2.1 5 = .ok (.aload_n 0, 1) := by decide +kernel
theorem d_X0_hasPlace_6 : decode M_X0_hasPlace.2.1 6 = .ok (.getfield 15, 3) := by decide +kernel
theorem d_X0_hasPlace_9 : decode M_X0_hasPlace.2.1 9 = .ok (.if_icmp .ge 19, 3) := by decide +kernel
theorem d_X0_hasPlace_12 : decode M_X0_hasPlace.2.1 12 = .ok (.iload_n 2, 1) := by decide +kernel
theorem d_X0_hasPlace_13 : decode M_X0_hasPlace.2.1 13 = .ok (.ifCond .lt 15, 3) := by decide +kernel
theorem d_X0_hasPlace_16 : decode M_X0_hasPlace.2.1 16 = .ok (.iload_n 2, 1) := by decide +kernel
theorem d_X0_hasPlace_17 : decode M_X0_hasPlace.2.1 17 = .ok (.aload_n 0, 1) := by decide +kernel
theorem d_X0_hasPlace_18 : decode M_X0_hasPlace.2.1 18 = .ok (.getfield 19, 3) := by decide +kernel
theorem d_X0_hasPlace_21 : decode M_X0_hasPlace.2.1 21 = .ok (.if_icmp .ge 7, 3) := by decide +kernel
theorem d_X0_hasPlace_24 : decode M_X0_hasPlace.2.1 24 = .ok (.iconst 1, 1) := by decide +kernel
theorem d_X0_hasPlace_25 : decode M_X0_hasPlace.2.1 25 = .ok (.goto 4, 3) := by decide +kernel
theorem d_X0_hasPlace_28 : decode M_X0_hasPlace.2.1 28 = .ok (.iconst 0, 1) := by decide +kernel
theorem d_X0_hasPlace_29 : decode M_X0_hasPlace.2.1 29 = .ok (.ireturn, 1) := by decide +kernel
theorem ce_X0_hasPlace : zw_CeV M_X0_hasPlace 2 := ⟨⟨⟨by decide +kernel, by decide +kernel, by decide +kernel⟩, (zw_mG (List.mem_of_getElem? (i := 864) (by decide +kernel)) rfl), (zw_mG (List.mem_of_getElem? (i := 101) (by decide +kernel)) rfl), by decide, by decide +kernel⟩, (zw_mG (List.mem_of_getElem? (i := 862) (by decide +kernel)) rfl), (zw_mG (List.mem_of_getElem? (i := 863) (by decide +kernel)) rfl)⟩
def f_X0_hasPlace (v0 : Nat) (v1 : Int32) (v2 : Int32) (I : zI) : Option (Int32) :=
  if v1 < 0 then some 0 else zw_g (zw_gc v0 0) (if (I v0 1) ≤ v1 then some 0 else if v2 < 0 then some 0 else if (I v0 2) ≤ v2 then some 0 else some 1)
theorem c_X0_hasPlace (X : zw_X) (v0 : Nat) (v1 : Int32) (v2 : Int32) (I : zI) (R : zR) (J : zJ) {P : Option Value → aS → Prop} (o : Int32) (hf : f_X0_hasPlace v0 v1 v2 I = some o) (hk : P (some (.int o)) (I, R, J)) : zw_C X M_X0_hasPlace 0 0 0 199 [.ref v0, .int v1, .int v2] (I, R, J) P := by
  show zy_V X M_X0_hasPlace 0 P 0 [.ref v0, .int v1, .int v2] [] (I, R, J)
  unfold f_X0_hasPlace at hf
  refine zv_iload_n (pc := 0) d_X0_hasPlace_0 rfl ?_
  rcases zw_ifE hf with ⟨c1, hf⟩ | ⟨c1, hf⟩
  · refine zv_if_lt (pc := 1) (tg := 28) d_X0_hasPlace_1 (by decide) (fun _ => ?_) (fun q => absurd c1 q)
    refine zv_iconst (pc := 28) d_X0_hasPlace_28 zc_i_0 ?_
    cases hf
    exact zx_zret (pc := 29) d_X0_hasPlace_29 rfl (Or.inl rfl) hk
  · refine zv_if_lt (pc := 1) (tg := 28) d_X0_hasPlace_1 (by decide) (fun q => absurd q c1) (fun _ => ?_)
    refine zv_iload_n (pc := 4) d_X0_hasPlace_4 rfl ?_
    refine zv_aload_n (pc := 5) d_X0_hasPlace_5 rfl ?_
    obtain ⟨g2, hf⟩ := zw_gcE hf (by decide)
    refine zx_getI (pc := 6) d_X0_hasPlace_6 lk_CutStones_Drawing_15 (by decide) g2 ?_
    rcases zw_ifE hf with ⟨c3, hf⟩ | ⟨c3, hf⟩
    · refine zv_icmp_ge (pc := 9) (tg := 28) d_X0_hasPlace_9 (by decide) (fun _ => ?_) (fun q => absurd c3 q)
      refine zv_iconst (pc := 28) d_X0_hasPlace_28 zc_i_0 ?_
      cases hf
      exact zx_zret (pc := 29) d_X0_hasPlace_29 rfl (Or.inl rfl) hk
    · refine zv_icmp_ge (pc := 9) (tg := 28) d_X0_hasPlace_9 (by decide) (fun q => absurd q c3) (fun _ => ?_)
      refine zv_iload_n (pc := 12) d_X0_hasPlace_12 rfl ?_
      rcases zw_ifE hf with ⟨c4, hf⟩ | ⟨c4, hf⟩
      · refine zv_if_lt (pc := 13) (tg := 28) d_X0_hasPlace_13 (by decide) (fun _ => ?_) (fun q => absurd c4 q)
        refine zv_iconst (pc := 28) d_X0_hasPlace_28 zc_i_0 ?_
        cases hf
        exact zx_zret (pc := 29) d_X0_hasPlace_29 rfl (Or.inl rfl) hk
      · refine zv_if_lt (pc := 13) (tg := 28) d_X0_hasPlace_13 (by decide) (fun q => absurd q c4) (fun _ => ?_)
        refine zv_iload_n (pc := 16) d_X0_hasPlace_16 rfl ?_
        refine zv_aload_n (pc := 17) d_X0_hasPlace_17 rfl ?_
        refine zx_getI (pc := 18) d_X0_hasPlace_18 lk_CutStones_Drawing_19 (by decide) g2 ?_
        rcases zw_ifE hf with ⟨c5, hf⟩ | ⟨c5, hf⟩
        · refine zv_icmp_ge (pc := 21) (tg := 28) d_X0_hasPlace_21 (by decide) (fun _ => ?_) (fun q => absurd c5 q)
          refine zv_iconst (pc := 28) d_X0_hasPlace_28 zc_i_0 ?_
          cases hf
          exact zx_zret (pc := 29) d_X0_hasPlace_29 rfl (Or.inl rfl) hk
        · refine zv_icmp_ge (pc := 21) (tg := 28) d_X0_hasPlace_21 (by decide) (fun q => absurd q c5) (fun _ => ?_)
          refine zv_iconst (pc := 24) d_X0_hasPlace_24 zc_i_1 ?_
          refine zv_goto (pc := 25) (tg := 29) d_X0_hasPlace_25 (by decide) ?_
          cases hf
          exact zx_zret (pc := 29) d_X0_hasPlace_29 rfl (Or.inr rfl) hk
abbrev M_X10_areCuts : zw_M := (⟨"CutStones", "areCuts", "(I)Z"⟩, prog_1_method_36_code, 2, (Option.some Jvm.ClassFile.FieldType.boolean))
theorem d_X10_areCuts_0 : decode M_X10_areCuts.2.1 0 = .ok (.iload_n 1, 1) := by decide +kernel
theorem d_X10_areCuts_1 : decode M_X10_areCuts.2.1 1 = .ok (.ifCond .lt 19, 3) := by decide +kernel
theorem d_X10_areCuts_4 : decode M_X10_areCuts.2.1 4 = .ok (.iload_n 1, 1) := by decide +kernel
theorem d_X10_areCuts_5 : decode M_X10_areCuts.2.1 5 = .ok (.aload_n 0, 1) := by decide +kernel
theorem d_X10_areCuts_6 : decode M_X10_areCuts.2.1 6 = .ok (.getfield 26, 3) := by decide +kernel
theorem d_X10_areCuts_9 : decode M_X10_areCuts.2.1 9 = .ok (.getfield 261, 3) := by decide +kernel
theorem d_X10_areCuts_12 : decode M_X10_areCuts.2.1 12 = .ok (.ishr, 1) := by decide +kernel
theorem d_X10_areCuts_13 : decode M_X10_areCuts.2.1 13 = .ok (.ifCond .ne 7, 3) := by decide +kernel
theorem d_X10_areCuts_16 : decode M_X10_areCuts.2.1 16 = .ok (.iconst 1, 1) := by decide +kernel
theorem d_X10_areCuts_17 : decode M_X10_areCuts.2.1 17 = .ok (.goto 4, 3) := by decide +kernel
theorem d_X10_areCuts_20 : decode M_X10_areCuts.2.1 20 = .ok (.iconst 0, 1) := by decide +kernel
theorem d_X10_areCuts_21 : decode M_X10_areCuts.2.1 21 = .ok (.ireturn, 1) := by decide +kernel
theorem ce_X10_areCuts : zw_CeV M_X10_areCuts 1 := ⟨⟨⟨by decide +kernel, by decide +kernel, by decide +kernel⟩, (zw_mG (List.mem_of_getElem? (i := 1049) (by decide +kernel)) rfl), (zw_mG (List.mem_of_getElem? (i := 96) (by decide +kernel)) rfl), by decide, by decide +kernel⟩, (zw_mG (List.mem_of_getElem? (i := 1048) (by decide +kernel)) rfl), (zw_mG (List.mem_of_getElem? (i := 40) (by decide +kernel)) rfl)⟩
def f_X10_areCuts (v0 : Nat) (v1 : Int32) (I : zI) (R : zR) : Option (Int32) :=
  if v1 < 0 then some 0 else zw_g (zw_gc v0 10) (zw_g (zw_gc (R v0 2) 1) (if ¬ (v1 >>> ((I (R v0 2) 3) &&& 31)) = 0 then some 0 else some 1))
theorem c_X10_areCuts (X : zw_X) (v0 : Nat) (v1 : Int32) (I : zI) (R : zR) (J : zJ) {P : Option Value → aS → Prop} (o : Int32) (hf : f_X10_areCuts v0 v1 I R = some o) (hk : P (some (.int o)) (I, R, J)) : zw_C X M_X10_areCuts 0 0 0 199 [.ref v0, .int v1] (I, R, J) P := by
  show zy_V X M_X10_areCuts 0 P 0 [.ref v0, .int v1] [] (I, R, J)
  unfold f_X10_areCuts at hf
  refine zv_iload_n (pc := 0) d_X10_areCuts_0 rfl ?_
  rcases zw_ifE hf with ⟨c1, hf⟩ | ⟨c1, hf⟩
  · refine zv_if_lt (pc := 1) (tg := 20) d_X10_areCuts_1 (by decide) (fun _ => ?_) (fun q => absurd c1 q)
    refine zv_iconst (pc := 20) d_X10_areCuts_20 zc_i_0 ?_
    cases hf
    exact zx_zret (pc := 21) d_X10_areCuts_21 rfl (Or.inl rfl) hk
  · refine zv_if_lt (pc := 1) (tg := 20) d_X10_areCuts_1 (by decide) (fun q => absurd q c1) (fun _ => ?_)
    refine zv_iload_n (pc := 4) d_X10_areCuts_4 rfl ?_
    refine zv_aload_n (pc := 5) d_X10_areCuts_5 rfl ?_
    obtain ⟨g2, hf⟩ := zw_gcE hf (by decide)
    obtain ⟨g3, hf⟩ := zw_gcE hf (by decide)
    refine zx_getR (pc := 6) d_X10_areCuts_6 lk_CutStones_26 (by decide) g2 g3 ?_
    refine zx_getI (pc := 9) d_X10_areCuts_9 lk_CutStones_261 (by decide) g3 ?_
    refine zv_ishr (pc := 12) d_X10_areCuts_12 ?_
    rcases zw_ifE hf with ⟨c4, hf⟩ | ⟨c4, hf⟩
    · refine zv_if_ne (pc := 13) (tg := 20) d_X10_areCuts_13 (by decide) (fun _ => ?_) (fun q => absurd q c4)
      refine zv_iconst (pc := 20) d_X10_areCuts_20 zc_i_0 ?_
      cases hf
      exact zx_zret (pc := 21) d_X10_areCuts_21 rfl (Or.inl rfl) hk
    · refine zv_if_ne (pc := 13) (tg := 20) d_X10_areCuts_13 (by decide) (fun q => absurd q c4) (fun _ => ?_)
      refine zv_iconst (pc := 16) d_X10_areCuts_16 zc_i_1 ?_
      refine zv_goto (pc := 17) (tg := 21) d_X10_areCuts_17 (by decide) ?_
      cases hf
      exact zx_zret (pc := 21) d_X10_areCuts_21 rfl (Or.inr rfl) hk
abbrev M_X10_back : zw_M := (⟨"CutStones", "back", "(I)I"⟩, prog_1_method_3_code, 2, (Option.some Jvm.ClassFile.FieldType.int))
theorem d_X10_back_0 : decode M_X10_back.2.1 0 = .ok (.iload_n 1, 1) := by decide +kernel
theorem d_X10_back_1 : decode M_X10_back.2.1 1 = .ok (.ifCond .lt 14, 3) := by decide +kernel
theorem d_X10_back_4 : decode M_X10_back.2.1 4 = .ok (.iload_n 1, 1) := by decide +kernel
theorem d_X10_back_5 : decode M_X10_back.2.1 5 = .ok (.aload_n 0, 1) := by decide +kernel
theorem d_X10_back_6 : decode M_X10_back.2.1 6 = .ok (.getfield 10, 3) := by decide +kernel
theorem d_X10_back_9 : decode M_X10_back.2.1 9 = .ok (.getfield 88, 3) := by decide +kernel
theorem d_X10_back_12 : decode M_X10_back.2.1 12 = .ok (.if_icmp .le 5, 3) := by decide +kernel
theorem d_X10_back_15 : decode M_X10_back.2.1 15 = .ok (.iconst (-1), 1) := by decide +kernel
theorem d_X10_back_16 : decode M_X10_back.2.1 16 = .ok (.ireturn, 1) := by decide +kernel
theorem d_X10_back_17 : decode M_X10_back.2.1 17 = .ok (.aload_n 0, 1) := by decide +kernel
theorem d_X10_back_18 : decode M_X10_back.2.1 18 = .ok (.getfield 10, 3) := by decide +kernel
theorem d_X10_back_21 : decode M_X10_back.2.1 21 = .ok (.dup, 1) := by decide +kernel
theorem d_X10_back_22 : decode M_X10_back.2.1 22 = .ok (.getfield 88, 3) := by decide +kernel
theorem d_X10_back_25 : decode M_X10_back.2.1 25 = .ok (.iload_n 1, 1) := by decide +kernel
theorem d_X10_back_26 : decode M_X10_back.2.1 26 = .ok (.isub, 1) := by decide +kernel
theorem d_X10_back_27 : decode M_X10_back.2.1 27 = .ok (.putfield 88, 3) := by decide +kernel
theorem d_X10_back_30 : decode M_X10_back.2.1 30 = .ok (.aload_n 0, 1) := by decide +kernel
theorem d_X10_back_31 : decode M_X10_back.2.1 31 = .ok (.getfield 10, 3) := by decide +kernel
theorem d_X10_back_34 : decode M_X10_back.2.1 34 = .ok (.getfield 88, 3) := by decide +kernel
theorem d_X10_back_37 : decode M_X10_back.2.1 37 = .ok (.ireturn, 1) := by decide +kernel
theorem ce_X10_back : zw_CeV M_X10_back 1 := ⟨⟨⟨by decide +kernel, by decide +kernel, by decide +kernel⟩, (zw_mG (List.mem_of_getElem? (i := 532) (by decide +kernel)) rfl), (zw_mG (List.mem_of_getElem? (i := 96) (by decide +kernel)) rfl), by decide, by decide +kernel⟩, (zw_mG (List.mem_of_getElem? (i := 530) (by decide +kernel)) rfl), (zw_mG (List.mem_of_getElem? (i := 531) (by decide +kernel)) rfl)⟩
def f_X10_back (v0 : Nat) (v1 : Int32) (I : zI) (R : zR) : Option (Int32 × zI) :=
  if v1 < 0 then some ((-1), I) else zw_g (zw_gc v0 10) (zw_g (zw_gc (R v0 0) 8) (if v1 ≤ (I (R v0 0) 1) then zw_let (zw_u I (R v0 0) 1 ((I (R v0 0) 1) - v1) : zI) fun I5 => (some ((I5 (R v0 0) 1), I5)) else some ((-1), I)))
theorem c_X10_back (X : zw_X) (v0 : Nat) (v1 : Int32) (I : zI) (R : zR) (J : zJ) {P : Option Value → aS → Prop} (o : Int32 × zI) (hf : f_X10_back v0 v1 I R = some o) (hk : P (some (.int o.1)) (o.2, R, J)) : zw_C X M_X10_back 0 0 0 199 [.ref v0, .int v1] (I, R, J) P := by
  show zy_V X M_X10_back 0 P 0 [.ref v0, .int v1] [] (I, R, J)
  unfold f_X10_back at hf
  refine zv_iload_n (pc := 0) d_X10_back_0 rfl ?_
  rcases zw_ifE hf with ⟨c1, hf⟩ | ⟨c1, hf⟩
  · refine zv_if_lt (pc := 1) (tg := 15) d_X10_back_1 (by decide) (fun _ => ?_) (fun q => absurd c1 q)
    refine zv_iconst (pc := 15) d_X10_back_15 zc_i_m1 ?_
    cases hf
    exact zx_iret (pc := 16) d_X10_back_16 rfl hk
  · refine zv_if_lt (pc := 1) (tg := 15) d_X10_back_1 (by decide) (fun q => absurd q c1) (fun _ => ?_)
    refine zv_iload_n (pc := 4) d_X10_back_4 rfl ?_
    refine zv_aload_n (pc := 5) d_X10_back_5 rfl ?_
    obtain ⟨g2, hf⟩ := zw_gcE hf (by decide)
    obtain ⟨g3, hf⟩ := zw_gcE hf (by decide)
    refine zx_getR (pc := 6) d_X10_back_6 lk_CutStones_10 (by decide) g2 g3 ?_
    refine zx_getI (pc := 9) d_X10_back_9 lk_CutStones_88 (by decide) g3 ?_
    rcases zw_ifE hf with ⟨c4, hf⟩ | ⟨c4, hf⟩
    · refine zv_icmp_le (pc := 12) (tg := 17) d_X10_back_12 (by decide) (fun _ => ?_) (fun q => absurd c4 q)
      refine zv_aload_n (pc := 17) d_X10_back_17 rfl ?_
      refine zx_getR (pc := 18) d_X10_back_18 lk_CutStones_10 (by decide) g2 g3 ?_
      refine zv_dup (pc := 21) d_X10_back_21 rfl ?_
      refine zx_getI (pc := 22) d_X10_back_22 lk_CutStones_88 (by decide) g3 ?_
      refine zv_iload_n (pc := 25) d_X10_back_25 rfl ?_
      refine zv_isub (pc := 26) d_X10_back_26 ?_
      obtain ⟨I5, eI5, hf⟩ := zw_letE hf
      refine zx_putI (pc := 27) (I2 := I5) d_X10_back_27 lk_CutStones_88 rfl g3 eI5 ?_
      refine zv_aload_n (pc := 30) d_X10_back_30 rfl ?_
      refine zx_getR (pc := 31) d_X10_back_31 lk_CutStones_10 (by decide) g2 g3 ?_
      refine zx_getI (pc := 34) d_X10_back_34 lk_CutStones_88 (by decide) g3 ?_
      cases hf
      exact zx_iret (pc := 37) d_X10_back_37 rfl hk
    · refine zv_icmp_le (pc := 12) (tg := 17) d_X10_back_12 (by decide) (fun q => absurd q c4) (fun _ => ?_)
      refine zv_iconst (pc := 15) d_X10_back_15 zc_i_m1 ?_
      cases hf
      exact zx_iret (pc := 16) d_X10_back_16 rfl hk
abbrev M_X10_column : zw_M := (⟨"CutStones", "column", "(I)I"⟩, prog_1_method_14_code, 2, (Option.some Jvm.ClassFile.FieldType.int))
theorem d_X10_column_0 : decode M_X10_column.2.1 0 = .ok (.aload_n 0, 1) := by decide +kernel
theorem d_X10_column_1 : decode M_X10_column.2.1 1 = .ok (.getfield 48, 3) := by decide +kernel
theorem d_X10_column_4 : decode M_X10_column.2.1 4 = .ok (.ifCond .eq 33, 3) := by decide +kernel
theorem d_X10_column_7 : decode M_X10_column.2.1 7 = .ok (.iload_n 1, 1) := by decide +kernel
theorem d_X10_column_8 : decode M_X10_column.2.1 8 = .ok (.ifCond .lt 29, 3) := by decide +kernel
theorem d_X10_column_11 : decode M_X10_column.2.1 11 = .ok (.iload_n 1, 1) := by decide +kernel
theorem d_X10_column_12 : decode M_X10_column.2.1 12 = .ok (.aload_n 0, 1) := by decide +kernel
theorem d_X10_column_13 : decode M_X10_column.2.1 13 = .ok (.getfield 44, 3) := by decide +kernel
theorem d_X10_column_16 : decode M_X10_column.2.1 16 = .ok (.getfield 192, 3) := by decide +kernel
theorem d_X10_column_19 : decode M_X10_column.2.1 19 = .ok (.if_icmp .ge 18, 3) := by decide +kernel
theorem d_X10_column_22 : decode M_X10_column.2.1 22 = .ok (.aload_n 0, 1) := by decide +kernel
theorem d_X10_column_23 : decode M_X10_column.2.1 23 = .ok (.getfield 44, 3) := by decide +kernel
theorem d_X10_column_26 : decode M_X10_column.2.1 26 = .ok (.getfield 195, 3) := by decide +kernel
theorem d_X10_column_29 : decode M_X10_column.2.1 29 = .ok (.getfield 198, 3) := by decide +kernel
theorem d_X10_column_32 : decode M_X10_column.2.1 32 = .ok (.iload_n 1, 1) := by decide +kernel
theorem d_X10_column_33 : decode M_X10_column.2.1 33 = .ok (.iaload, 1) := by decide +kernel
theorem d_X10_column_34 : decode M_X10_column.2.1 34 = .ok (.goto 4, 3) := by decide +kernel
theorem d_X10_column_37 : decode M_X10_column.2.1 37 = .ok (.iconst (-1), 1) := by decide +kernel
theorem d_X10_column_38 : decode M_X10_column.2.1 38 = .ok (.ireturn, 1) := by decide +kernel
theorem ce_X10_column : zw_CeV M_X10_column 1 := ⟨⟨⟨by decide +kernel, by decide +kernel, by decide +kernel⟩, (zw_mG (List.mem_of_getElem? (i := 973) (by decide +kernel)) rfl), (zw_mG (List.mem_of_getElem? (i := 96) (by decide +kernel)) rfl), by decide, by decide +kernel⟩, (zw_mG (List.mem_of_getElem? (i := 971) (by decide +kernel)) rfl), (zw_mG (List.mem_of_getElem? (i := 972) (by decide +kernel)) rfl)⟩
def f_X10_column (v0 : Nat) (v1 : Int32) (I : zI) (R : zR) : Option (Int32) :=
  zw_g (zw_gc v0 10) (if (I v0 6) = 0 then some (-1) else if v1 < 0 then some (-1) else zw_g (zw_gc (R v0 5) 6) (if (I (R v0 5) 2) ≤ v1 then some (-1) else zw_g (zw_gc (R (R v0 5) 1) 2) (zw_g (zw_gc (R (R (R v0 5) 1) 3) 13) (zw_g (zw_in v1 (zw_SH (R (R (R v0 5) 1) 3)).2) (some (I (R (R (R v0 5) 1) 3) (Int32.toNatClampNeg v1)))))))
theorem c_X10_column (X : zw_X) (v0 : Nat) (v1 : Int32) (I : zI) (R : zR) (J : zJ) {P : Option Value → aS → Prop} (o : Int32) (hf : f_X10_column v0 v1 I R = some o) (hk : P (some (.int o)) (I, R, J)) : zw_C X M_X10_column 0 0 0 199 [.ref v0, .int v1] (I, R, J) P := by
  show zy_V X M_X10_column 0 P 0 [.ref v0, .int v1] [] (I, R, J)
  unfold f_X10_column at hf
  refine zv_aload_n (pc := 0) d_X10_column_0 rfl ?_
  obtain ⟨g1, hf⟩ := zw_gcE hf (by decide)
  refine zx_getI (pc := 1) d_X10_column_1 lk_CutStones_48 (by decide) g1 ?_
  rcases zw_ifE hf with ⟨c2, hf⟩ | ⟨c2, hf⟩
  · refine zv_if_eq (pc := 4) (tg := 37) d_X10_column_4 (by decide) (fun _ => ?_) (fun q => absurd c2 q)
    refine zv_iconst (pc := 37) d_X10_column_37 zc_i_m1 ?_
    cases hf
    exact zx_iret (pc := 38) d_X10_column_38 rfl hk
  · refine zv_if_eq (pc := 4) (tg := 37) d_X10_column_4 (by decide) (fun q => absurd q c2) (fun _ => ?_)
    refine zv_iload_n (pc := 7) d_X10_column_7 rfl ?_
    rcases zw_ifE hf with ⟨c3, hf⟩ | ⟨c3, hf⟩
    · refine zv_if_lt (pc := 8) (tg := 37) d_X10_column_8 (by decide) (fun _ => ?_) (fun q => absurd c3 q)
      refine zv_iconst (pc := 37) d_X10_column_37 zc_i_m1 ?_
      cases hf
      exact zx_iret (pc := 38) d_X10_column_38 rfl hk
    · refine zv_if_lt (pc := 8) (tg := 37) d_X10_column_8 (by decide) (fun q => absurd q c3) (fun _ => ?_)
      refine zv_iload_n (pc := 11) d_X10_column_11 rfl ?_
      refine zv_aload_n (pc := 12) d_X10_column_12 rfl ?_
      obtain ⟨g4, hf⟩ := zw_gcE hf (by decide)
      refine zx_getR (pc := 13) d_X10_column_13 lk_CutStones_44 (by decide) g1 g4 ?_
      refine zx_getI (pc := 16) d_X10_column_16 lk_CutStones_192 (by decide) g4 ?_
      rcases zw_ifE hf with ⟨c5, hf⟩ | ⟨c5, hf⟩
      · refine zv_icmp_ge (pc := 19) (tg := 37) d_X10_column_19 (by decide) (fun _ => ?_) (fun q => absurd c5 q)
        refine zv_iconst (pc := 37) d_X10_column_37 zc_i_m1 ?_
        cases hf
        exact zx_iret (pc := 38) d_X10_column_38 rfl hk
      · refine zv_icmp_ge (pc := 19) (tg := 37) d_X10_column_19 (by decide) (fun q => absurd q c5) (fun _ => ?_)
        refine zv_aload_n (pc := 22) d_X10_column_22 rfl ?_
        refine zx_getR (pc := 23) d_X10_column_23 lk_CutStones_44 (by decide) g1 g4 ?_
        obtain ⟨g6, hf⟩ := zw_gcE hf (by decide)
        refine zx_getR (pc := 26) d_X10_column_26 lk_CutStones_195 (by decide) g4 g6 ?_
        obtain ⟨g7, hf⟩ := zw_gcE hf (by decide)
        refine zx_getR (pc := 29) d_X10_column_29 lk_CutStones_198 (by decide) g6 g7 ?_
        refine zv_iload_n (pc := 32) d_X10_column_32 rfl ?_
        obtain ⟨i8, hf⟩ := zw_inE hf
        refine zx_iald (pc := 33) d_X10_column_33 g7 i8 ?_
        refine zv_goto (pc := 34) (tg := 38) d_X10_column_34 (by decide) ?_
        cases hf
        exact zx_iret (pc := 38) d_X10_column_38 rfl hk
abbrev M_X10_drawing : zw_M := (⟨"CutStones", "drawing", "(ZI)LCutStones$Drawing;"⟩, prog_1_method_35_code, 3, (Option.some (Jvm.ClassFile.FieldType.object "CutStones$Drawing")))
theorem d_X10_drawing_0 : decode M_X10_drawing.2.1 0 = .ok (.iload_n 1, 1) := by decide +kernel
theorem d_X10_drawing_1 : decode M_X10_drawing.2.1 1 = .ok (.ifCond .eq 15, 3) := by decide +kernel
theorem d_X10_drawing_4 : decode M_X10_drawing.2.1 4 = .ok (.aload_n 0, 1) := by decide +kernel
theorem d_X10_drawing_5 : decode M_X10_drawing.2.1 5 = .ok (.getfield 26, 3) := by decide +kernel
theorem d_X10_drawing_8 : decode M_X10_drawing.2.1 8 = .ok (.getfield 211, 3) := by decide +kernel
theorem d_X10_drawing_11 : decode M_X10_drawing.2.1 11 = .ok (.iload_n 2, 1) := by decide +kernel
theorem d_X10_drawing_12 : decode M_X10_drawing.2.1 12 = .ok (.aaload, 1) := by decide +kernel
theorem d_X10_drawing_13 : decode M_X10_drawing.2.1 13 = .ok (.goto 12, 3) := by decide +kernel
theorem d_X10_drawing_16 : decode M_X10_drawing.2.1 16 = .ok (.aload_n 0, 1) := by decide +kernel
theorem d_X10_drawing_17 : decode M_X10_drawing.2.1 17 = .ok (.getfield 26, 3) := by decide +kernel
theorem d_X10_drawing_20 : decode M_X10_drawing.2.1 20 = .ok (.getfield 141, 3) := by decide +kernel
theorem d_X10_drawing_23 : decode M_X10_drawing.2.1 23 = .ok (.iload_n 2, 1) := by decide +kernel
theorem d_X10_drawing_24 : decode M_X10_drawing.2.1 24 = .ok (.aaload, 1) := by decide +kernel
theorem d_X10_drawing_25 : decode M_X10_drawing.2.1 25 = .ok (.areturn, 1) := by decide +kernel
theorem ce_X10_drawing : zw_CeV M_X10_drawing 2 := ⟨⟨⟨by decide +kernel, by decide +kernel, by decide +kernel⟩, (zw_mG (List.mem_of_getElem? (i := 856) (by decide +kernel)) rfl), (zw_mG (List.mem_of_getElem? (i := 96) (by decide +kernel)) rfl), by decide, by decide +kernel⟩, (zw_mG (List.mem_of_getElem? (i := 855) (by decide +kernel)) rfl), (zw_mG (List.mem_of_getElem? (i := 26) (by decide +kernel)) rfl)⟩
def f_X10_drawing (v0 : Nat) (v1 : Int32) (v2 : Int32) (R : zR) : Option (Nat) :=
  if v1 = 0 then zw_g (zw_gc v0 10) (zw_g (zw_gc (R v0 2) 1) (zw_g (zw_gc (R (R v0 2) 2) 16) (zw_g (zw_in v2 (zw_SH (R (R v0 2) 2)).2) (zw_g (zw_gc (R (R (R v0 2) 2) (Int32.toNatClampNeg v2)) 0) (some (R (R (R v0 2) 2) (Int32.toNatClampNeg v2))))))) else zw_g (zw_gc v0 10) (zw_g (zw_gc (R v0 2) 1) (zw_g (zw_gc (R (R v0 2) 4) 16) (zw_g (zw_in v2 (zw_SH (R (R v0 2) 4)).2) (zw_g (zw_gc (R (R (R v0 2) 4) (Int32.toNatClampNeg v2)) 0) (some (R (R (R v0 2) 4) (Int32.toNatClampNeg v2)))))))
theorem c_X10_drawing (X : zw_X) (v0 : Nat) (v1 : Int32) (v2 : Int32) (I : zI) (R : zR) (J : zJ) {P : Option Value → aS → Prop} (o : Nat) (hf : f_X10_drawing v0 v1 v2 R = some o) (hk : P (some (.ref o)) (I, R, J)) : zw_C X M_X10_drawing 0 0 0 199 [.ref v0, .int v1, .int v2] (I, R, J) P := by
  show zy_V X M_X10_drawing 0 P 0 [.ref v0, .int v1, .int v2] [] (I, R, J)
  unfold f_X10_drawing at hf
  refine zv_iload_n (pc := 0) d_X10_drawing_0 rfl ?_
  rcases zw_ifE hf with ⟨c1, hf⟩ | ⟨c1, hf⟩
  · refine zv_if_eq (pc := 1) (tg := 16) d_X10_drawing_1 (by decide) (fun _ => ?_) (fun q => absurd c1 q)
    refine zv_aload_n (pc := 16) d_X10_drawing_16 rfl ?_
    obtain ⟨g2, hf⟩ := zw_gcE hf (by decide)
    obtain ⟨g3, hf⟩ := zw_gcE hf (by decide)
    refine zx_getR (pc := 17) d_X10_drawing_17 lk_CutStones_26 (by decide) g2 g3 ?_
    obtain ⟨g4, hf⟩ := zw_gcE hf (by decide)
    refine zx_getR (pc := 20) d_X10_drawing_20 lk_CutStones_141 (by decide) g3 g4 ?_
    refine zv_iload_n (pc := 23) d_X10_drawing_23 rfl ?_
    obtain ⟨i5, hf⟩ := zw_inE hf
    obtain ⟨g6, hf⟩ := zw_gcE hf (by decide)
    refine zx_aald (pc := 24) d_X10_drawing_24 g4 (by decide) i5 g6 ?_
    cases hf
    exact zx_aret (pc := 25) d_X10_drawing_25 rfl hk
  · refine zv_if_eq (pc := 1) (tg := 16) d_X10_drawing_1 (by decide) (fun q => absurd q c1) (fun _ => ?_)
    refine zv_aload_n (pc := 4) d_X10_drawing_4 rfl ?_
    obtain ⟨g7, hf⟩ := zw_gcE hf (by decide)
    obtain ⟨g8, hf⟩ := zw_gcE hf (by decide)
    refine zx_getR (pc := 5) d_X10_drawing_5 lk_CutStones_26 (by decide) g7 g8 ?_
    obtain ⟨g9, hf⟩ := zw_gcE hf (by decide)
    refine zx_getR (pc := 8) d_X10_drawing_8 lk_CutStones_211 (by decide) g8 g9 ?_
    refine zv_iload_n (pc := 11) d_X10_drawing_11 rfl ?_
    obtain ⟨i10, hf⟩ := zw_inE hf
    obtain ⟨g11, hf⟩ := zw_gcE hf (by decide)
    refine zx_aald (pc := 12) d_X10_drawing_12 g9 (by decide) i10 g11 ?_
    refine zv_goto (pc := 13) (tg := 25) d_X10_drawing_13 (by decide) ?_
    cases hf
    exact zx_aret (pc := 25) d_X10_drawing_25 rfl hk
abbrev M_X10_isColour : zw_M := (⟨"CutStones", "isColour", "(I)Z"⟩, prog_1_method_37_code, 1, (Option.some Jvm.ClassFile.FieldType.boolean))
theorem d_X10_isColour_0 : decode M_X10_isColour.2.1 0 = .ok (.iload_n 0, 1) := by decide +kernel
theorem d_X10_isColour_1 : decode M_X10_isColour.2.1 1 = .ok (.ifCond .lt 12, 3) := by decide +kernel
theorem d_X10_isColour_4 : decode M_X10_isColour.2.1 4 = .ok (.iload_n 0, 1) := by decide +kernel
theorem d_X10_isColour_5 : decode M_X10_isColour.2.1 5 = .ok (.iconst 4, 1) := by decide +kernel
theorem d_X10_isColour_6 : decode M_X10_isColour.2.1 6 = .ok (.if_icmp .ge 7, 3) := by decide +kernel
theorem d_X10_isColour_9 : decode M_X10_isColour.2.1 9 = .ok (.iconst 1, 1) := by decide +kernel
theorem d_X10_isColour_10 : decode M_X10_isColour.2.1 10 = .ok (.goto 4, 3) := by decide +kernel
theorem d_X10_isColour_13 : decode M_X10_isColour.2.1 13 = .ok (.iconst 0, 1) := by decide +kernel
theorem d_X10_isColour_14 : decode M_X10_isColour.2.1 14 = .ok (.ireturn, 1) := by decide +kernel
theorem ce_X10_isColour : zw_CeS M_X10_isColour 1 := ⟨⟨⟨by decide +kernel, by decide +kernel, by decide +kernel⟩, (zw_mG (List.mem_of_getElem? (i := 886) (by decide +kernel)) rfl), (zw_mG (List.mem_of_getElem? (i := 96) (by decide +kernel)) rfl), by decide, by decide +kernel⟩, (zw_mG (List.mem_of_getElem? (i := 885) (by decide +kernel)) rfl)⟩
def f_X10_isColour (v0 : Int32)  : Option (Int32) :=
  if v0 < 0 then some 0 else if 4 ≤ v0 then some 0 else some 1
theorem c_X10_isColour (X : zw_X) (v0 : Int32) (I : zI) (R : zR) (J : zJ) {P : Option Value → aS → Prop} (o : Int32) (hf : f_X10_isColour v0  = some o) (hk : P (some (.int o)) (I, R, J)) : zw_C X M_X10_isColour 0 0 0 199 [.int v0] (I, R, J) P := by
  show zy_V X M_X10_isColour 0 P 0 [.int v0] [] (I, R, J)
  unfold f_X10_isColour at hf
  refine zv_iload_n (pc := 0) d_X10_isColour_0 rfl ?_
  rcases zw_ifE hf with ⟨c1, hf⟩ | ⟨c1, hf⟩
  · refine zv_if_lt (pc := 1) (tg := 13) d_X10_isColour_1 (by decide) (fun _ => ?_) (fun q => absurd c1 q)
    refine zv_iconst (pc := 13) d_X10_isColour_13 zc_i_0 ?_
    cases hf
    exact zx_zret (pc := 14) d_X10_isColour_14 rfl (Or.inl rfl) hk
  · refine zv_if_lt (pc := 1) (tg := 13) d_X10_isColour_1 (by decide) (fun q => absurd q c1) (fun _ => ?_)
    refine zv_iload_n (pc := 4) d_X10_isColour_4 rfl ?_
    refine zv_iconst (pc := 5) d_X10_isColour_5 zc_i_4 ?_
    rcases zw_ifE hf with ⟨c2, hf⟩ | ⟨c2, hf⟩
    · refine zv_icmp_ge (pc := 6) (tg := 13) d_X10_isColour_6 (by decide) (fun _ => ?_) (fun q => absurd c2 q)
      refine zv_iconst (pc := 13) d_X10_isColour_13 zc_i_0 ?_
      cases hf
      exact zx_zret (pc := 14) d_X10_isColour_14 rfl (Or.inl rfl) hk
    · refine zv_icmp_ge (pc := 6) (tg := 13) d_X10_isColour_6 (by decide) (fun q => absurd q c2) (fun _ => ?_)
      refine zv_iconst (pc := 9) d_X10_isColour_9 zc_i_1 ?_
      refine zv_goto (pc := 10) (tg := 14) d_X10_isColour_10 (by decide) ?_
      cases hf
      exact zx_zret (pc := 14) d_X10_isColour_14 rfl (Or.inr rfl) hk
abbrev M_X10_isCut : zw_M := (⟨"CutStones", "isCut", "(I)Z"⟩, prog_1_method_32_code, 2, (Option.some Jvm.ClassFile.FieldType.boolean))
theorem d_X10_isCut_0 : decode M_X10_isCut.2.1 0 = .ok (.iload_n 1, 1) := by decide +kernel
theorem d_X10_isCut_1 : decode M_X10_isCut.2.1 1 = .ok (.ifCond .lt 18, 3) := by decide +kernel
theorem d_X10_isCut_4 : decode M_X10_isCut.2.1 4 = .ok (.iload_n 1, 1) := by decide +kernel
theorem d_X10_isCut_5 : decode M_X10_isCut.2.1 5 = .ok (.aload_n 0, 1) := by decide +kernel
theorem d_X10_isCut_6 : decode M_X10_isCut.2.1 6 = .ok (.getfield 26, 3) := by decide +kernel
theorem d_X10_isCut_9 : decode M_X10_isCut.2.1 9 = .ok (.getfield 261, 3) := by decide +kernel
theorem d_X10_isCut_12 : decode M_X10_isCut.2.1 12 = .ok (.if_icmp .ge 7, 3) := by decide +kernel
theorem d_X10_isCut_15 : decode M_X10_isCut.2.1 15 = .ok (.iconst 1, 1) := by decide +kernel
theorem d_X10_isCut_16 : decode M_X10_isCut.2.1 16 = .ok (.goto 4, 3) := by decide +kernel
theorem d_X10_isCut_19 : decode M_X10_isCut.2.1 19 = .ok (.iconst 0, 1) := by decide +kernel
theorem d_X10_isCut_20 : decode M_X10_isCut.2.1 20 = .ok (.ireturn, 1) := by decide +kernel
theorem ce_X10_isCut : zw_CeV M_X10_isCut 1 := ⟨⟨⟨by decide +kernel, by decide +kernel, by decide +kernel⟩, (zw_mG (List.mem_of_getElem? (i := 852) (by decide +kernel)) rfl), (zw_mG (List.mem_of_getElem? (i := 96) (by decide +kernel)) rfl), by decide, by decide +kernel⟩, (zw_mG (List.mem_of_getElem? (i := 851) (by decide +kernel)) rfl), (zw_mG (List.mem_of_getElem? (i := 25) (by decide +kernel)) rfl)⟩
def f_X10_isCut (v0 : Nat) (v1 : Int32) (I : zI) (R : zR) : Option (Int32) :=
  if v1 < 0 then some 0 else zw_g (zw_gc v0 10) (zw_g (zw_gc (R v0 2) 1) (if (I (R v0 2) 3) ≤ v1 then some 0 else some 1))
theorem c_X10_isCut (X : zw_X) (v0 : Nat) (v1 : Int32) (I : zI) (R : zR) (J : zJ) {P : Option Value → aS → Prop} (o : Int32) (hf : f_X10_isCut v0 v1 I R = some o) (hk : P (some (.int o)) (I, R, J)) : zw_C X M_X10_isCut 0 0 0 199 [.ref v0, .int v1] (I, R, J) P := by
  show zy_V X M_X10_isCut 0 P 0 [.ref v0, .int v1] [] (I, R, J)
  unfold f_X10_isCut at hf
  refine zv_iload_n (pc := 0) d_X10_isCut_0 rfl ?_
  rcases zw_ifE hf with ⟨c1, hf⟩ | ⟨c1, hf⟩
  · refine zv_if_lt (pc := 1) (tg := 19) d_X10_isCut_1 (by decide) (fun _ => ?_) (fun q => absurd c1 q)
    refine zv_iconst (pc := 19) d_X10_isCut_19 zc_i_0 ?_
    cases hf
    exact zx_zret (pc := 20) d_X10_isCut_20 rfl (Or.inl rfl) hk
  · refine zv_if_lt (pc := 1) (tg := 19) d_X10_isCut_1 (by decide) (fun q => absurd q c1) (fun _ => ?_)
    refine zv_iload_n (pc := 4) d_X10_isCut_4 rfl ?_
    refine zv_aload_n (pc := 5) d_X10_isCut_5 rfl ?_
    obtain ⟨g2, hf⟩ := zw_gcE hf (by decide)
    obtain ⟨g3, hf⟩ := zw_gcE hf (by decide)
    refine zx_getR (pc := 6) d_X10_isCut_6 lk_CutStones_26 (by decide) g2 g3 ?_
    refine zx_getI (pc := 9) d_X10_isCut_9 lk_CutStones_261 (by decide) g3 ?_
    rcases zw_ifE hf with ⟨c4, hf⟩ | ⟨c4, hf⟩
    · refine zv_icmp_ge (pc := 12) (tg := 19) d_X10_isCut_12 (by decide) (fun _ => ?_) (fun q => absurd c4 q)
      refine zv_iconst (pc := 19) d_X10_isCut_19 zc_i_0 ?_
      cases hf
      exact zx_zret (pc := 20) d_X10_isCut_20 rfl (Or.inl rfl) hk
    · refine zv_icmp_ge (pc := 12) (tg := 19) d_X10_isCut_12 (by decide) (fun q => absurd q c4) (fun _ => ?_)
      refine zv_iconst (pc := 15) d_X10_isCut_15 zc_i_1 ?_
      refine zv_goto (pc := 16) (tg := 20) d_X10_isCut_16 (by decide) ?_
      cases hf
      exact zx_zret (pc := 20) d_X10_isCut_20 rfl (Or.inr rfl) hk
