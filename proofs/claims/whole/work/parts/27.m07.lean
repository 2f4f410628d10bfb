abbrev M_X11_laid : zw_M := (⟨"CutStonesModel", "laid", "(I)I"⟩, prog_13_method_76_code, 2, (Option.some Jvm.ClassFile.FieldType.int))
theorem d_X11_laid_0 : decode M_X11_laid.2.1 0 = .ok (.aload_n 0, 1) := by decide +kernel
theorem d_X11_laid_1 : decode M_X11_laid.2.1 1 = .ok (.getfield 270, 3) := by decide +kernel
theorem d_X11_laid_4 : decode M_X11_laid.2.1 4 = .ok (.ifCond .eq 22, 3) := by decide +kernel
theorem d_X11_laid_7 : decode M_X11_laid.2.1 7 = .ok (.iload_n 1, 1) := by decide +kernel
theorem d_X11_laid_8 : decode M_X11_laid.2.1 8 = .ok (.iconst 0, 1) := by decide +kernel
theorem d_X11_laid_9 : decode M_X11_laid.2.1 9 = .ok (.bipush 6, 2) := by decide +kernel
theorem d_X11_laid_11 : decode M_X11_laid.2.1 11 = .ok (.invokestatic 373, 3) := by decide +kernel
theorem d_X11_laid_14 : decode M_X11_laid.2.1 14 = .ok (.ifCond .eq 12, 3) := by decide +kernel
theorem d_X11_laid_17 : decode M_X11_laid.2.1 17 = .ok (.aload_n 0, 1) := by decide +kernel
theorem d_X11_laid_18 : decode M_X11_laid.2.1 18 = .ok (.getfield 149, 3) := by decide +kernel
theorem d_X11_laid_21 : decode M_X11_laid.2.1 21 = .ok (.iload_n 1, 1) := by decide +kernel
theorem d_X11_laid_22 : decode M_X11_laid.2.1 22 = .ok (.iaload, 1) := by decide +kernel
theorem d_X11_laid_23 : decode M_X11_laid.2.1 23 = .ok (.goto 4, 3) := by decide +kernel
theorem d_X11_laid_26 : decode M_X11_laid.2.1 26 = .ok (.iconst (-1), 1) := by decide +kernel
theorem d_X11_laid_27 : decode M_X11_laid.2.1 27 = .ok (.ireturn, 1) := by decide +kernel
theorem ce_X11_laid : zw_CeV M_X11_laid 1 := ⟨⟨⟨by decide +kernel, by decide +kernel, by decide +kernel⟩, (zw_mG (List.mem_of_getElem? (i := 1680) (by decide +kernel)) rfl), (zw_mG (List.mem_of_getElem? (i := 108) (by decide +kernel)) rfl), by decide, by decide +kernel⟩, (zw_mG (List.mem_of_getElem? (i := 1678) (by decide +kernel)) rfl), (zw_mG (List.mem_of_getElem? (i := 1679) (by decide +kernel)) rfl)⟩
def f_X11_laid (v0 : Nat) (v1 : Int32) (I : zI) (R : zR) : Option (Int32) :=
  zw_g (zw_gc v0 11) (if (I v0 70) = 0 then some (-1) else (f_X11_in v1 0 6).bind fun q3 => (if q3 = 0 then some (-1) else zw_g (zw_gc (R v0 71) 13) (zw_g (zw_in v1 (zw_SH (R v0 71)).2) (some (I (R v0 71) (Int32.toNatClampNeg v1))))))
theorem c_X11_laid (X : zw_X) (v0 : Nat) (v1 : Int32) (I : zI) (R : zR) (J : zJ) {P : Option Value → aS → Prop} (o : Int32) (hf : f_X11_laid v0 v1 I R = some o) (hk : P (some (.int o)) (I, R, J)) : zw_C X M_X11_laid 1 0 0 199 [.ref v0, .int v1] (I, R, J) P := by
  show zy_V X M_X11_laid 1 P 0 [.ref v0, .int v1] [] (I, R, J)
  unfold f_X11_laid at hf
  refine zv_aload_n (pc := 0) d_X11_laid_0 rfl ?_
  obtain ⟨g1, hf⟩ := zw_gcE hf (by decide)
  refine zx_getI (pc := 1) d_X11_laid_1 lk_CutStonesModel_270 (by decide) g1 ?_
  rcases zw_ifE hf with ⟨c2, hf⟩ | ⟨c2, hf⟩
  · refine zv_if_eq (pc := 4) (tg := 26) d_X11_laid_4 (by decide) (fun _ => ?_) (fun q => absurd c2 q)
    refine zv_iconst (pc := 26) d_X11_laid_26 zc_i_m1 ?_
    cases hf
    exact zx_iret (pc := 27) d_X11_laid_27 rfl hk
  · refine zv_if_eq (pc := 4) (tg := 26) d_X11_laid_4 (by decide) (fun q => absurd q c2) (fun _ => ?_)
    refine zv_iload_n (pc := 7) d_X11_laid_7 rfl ?_
    refine zv_iconst (pc := 8) d_X11_laid_8 zc_i_0 ?_
    refine zv_bipush (pc := 9) d_X11_laid_9 zc_b_6 ?_
    obtain ⟨q3, hq3, hf⟩ := zw_bdE hf
    refine zx_callS (pc := 11) (As := [.int v1, .int 0, .int 6]) (st := []) (d2 := 0) (M2 := M_X11_in) (P2 := (fun r S => r = (some (.int q3)) ∧ S = (I, R, J))) d_X11_laid_11 (zw_mG (List.mem_of_getElem? (i := 1522) (by decide +kernel)) rfl) ce_X11_in (Nat.le_of_ble_eq_true rfl) rfl (Nat.le_of_ble_eq_true rfl) (by decide) (c_X11_in X v1 0 6 I R J _ hq3 ⟨rfl, rfl⟩) ?_
    rintro _ _ ⟨rfl, rfl⟩
    show zy_V X M_X11_laid 1 P (11 + 3) [.ref v0, .int v1] [.int q3] (I, R, J)
    rcases zw_ifE hf with ⟨c4, hf⟩ | ⟨c4, hf⟩
    · refine zv_if_eq (pc := 14) (tg := 26) d_X11_laid_14 (by decide) (fun _ => ?_) (fun q => absurd c4 q)
      refine zv_iconst (pc := 26) d_X11_laid_26 zc_i_m1 ?_
      cases hf
      exact zx_iret (pc := 27) d_X11_laid_27 rfl hk
    · refine zv_if_eq (pc := 14) (tg := 26) d_X11_laid_14 (by decide) (fun q => absurd q c4) (fun _ => ?_)
      refine zv_aload_n (pc := 17) d_X11_laid_17 rfl ?_
      obtain ⟨g5, hf⟩ := zw_gcE hf (by decide)
      refine zx_getR (pc := 18) d_X11_laid_18 lk_CutStonesModel_149 (by decide) g1 g5 ?_
      refine zv_iload_n (pc := 21) d_X11_laid_21 rfl ?_
      obtain ⟨i6, hf⟩ := zw_inE hf
      refine zx_iald (pc := 22) d_X11_laid_22 g5 i6 ?_
      refine zv_goto (pc := 23) (tg := 27) d_X11_laid_23 (by decide) ?_
      cases hf
      exact zx_iret (pc := 27) d_X11_laid_27 rfl hk
abbrev M_X11_lies : zw_M := (⟨"CutStonesModel", "lies", "(IIIIII)Z"⟩, prog_13_method_68_code, 11, (Option.some Jvm.ClassFile.FieldType.boolean))
theorem d_X11_lies_0 : decode M_X11_lies.2.1 0 = .ok (.iconst 0, 1) := by decide +kernel
theorem d_X11_lies_1 : decode M_X11_lies.2.1 1 = .ok (.istore 7, 2) := by decide +kernel
theorem d_X11_lies_3 : decode M_X11_lies.2.1 3 = .ok (.iload 7, 2) := by decide +kernel
theorem d_X11_lies_5 : decode M_X11_lies.2.1 5 = .ok (.aload_n 0, 1) := by decide +kernel
theorem d_X11_lies_6 : decode M_X11_lies.2.1 6 = .ok (.getfield 67, 3) := by decide +kernel
theorem d_X11_lies_9 : decode M_X11_lies.2.1 9 = .ok (.iload_n 1, 1) := by decide +kernel
theorem d_X11_lies_10 : decode M_X11_lies.2.1 10 = .ok (.iaload, 1) := by decide +kernel
theorem d_X11_lies_11 : decode M_X11_lies.2.1 11 = .ok (.if_icmp .ge 103, 3) := by decide +kernel
theorem d_X11_lies_14 : decode M_X11_lies.2.1 14 = .ok (.iconst 0, 1) := by decide +kernel
theorem d_X11_lies_15 : decode M_X11_lies.2.1 15 = .ok (.istore 8, 2) := by decide +kernel
theorem d_X11_lies_17 : decode M_X11_lies.2.1 17 = .ok (.iload 8, 2) := by decide +kernel
theorem d_X11_lies_19 : decode M_X11_lies.2.1 19 = .ok (.aload_n 0, 1) := by decide +kernel
theorem d_X11_lies_20 : decode M_X11_lies.2.1 20 = .ok (.getfield 64, 3) := by decide +kernel
theorem d_X11_lies_23 : decode M_X11_lies.2.1 23 = .ok (.iload_n 1, 1) := by decide +kernel
theorem d_X11_lies_24 : decode M_X11_lies.2.1 24 = .ok (.iaload, 1) := by decide +kernel
theorem d_X11_lies_25 : decode M_X11_lies.2.1 25 = .ok (.if_icmp .ge 83, 3) := by decide +kernel
theorem d_X11_lies_28 : decode M_X11_lies.2.1 28 = .ok (.aload_n 0, 1) := by decide +kernel
theorem d_X11_lies_29 : decode M_X11_lies.2.1 29 = .ok (.iload_n 1, 1) := by decide +kernel
theorem d_X11_lies_30 : decode M_X11_lies.2.1 30 = .ok (.iload 8, 2) := by decide +kernel
theorem d_X11_lies_32 : decode M_X11_lies.2.1 32 = .ok (.iload 7, 2) := by decide +kernel
theorem d_X11_lies_34 : decode M_X11_lies.2.1 34 = .ok (.invokevirtual 352, 3) := by decide +kernel
theorem d_X11_lies_37 : decode M_X11_lies.2.1 37 = .ok (.istore 9, 2) := by decide +kernel
theorem d_X11_lies_39 : decode M_X11_lies.2.1 39 = .ok (.iload 9, 2) := by decide +kernel
theorem d_X11_lies_41 : decode M_X11_lies.2.1 41 = .ok (.ifCond .ne 6, 3) := by decide +kernel
theorem d_X11_lies_44 : decode M_X11_lies.2.1 44 = .ok (.goto 58, 3) := by decide +kernel
theorem d_X11_lies_47 : decode M_X11_lies.2.1 47 = .ok (.aload_n 0, 1) := by decide +kernel
theorem d_X11_lies_48 : decode M_X11_lies.2.1 48 = .ok (.iload_n 2, 1) := by decide +kernel
theorem d_X11_lies_49 : decode M_X11_lies.2.1 49 = .ok (.iload_n 3, 1) := by decide +kernel
theorem d_X11_lies_50 : decode M_X11_lies.2.1 50 = .ok (.iload 8, 2) := by decide +kernel
theorem d_X11_lies_52 : decode M_X11_lies.2.1 52 = .ok (.iadd, 1) := by decide +kernel
theorem d_X11_lies_53 : decode M_X11_lies.2.1 53 = .ok (.iload 4, 2) := by decide +kernel
theorem d_X11_lies_55 : decode M_X11_lies.2.1 55 = .ok (.iload 7, 2) := by decide +kernel
theorem d_X11_lies_57 : decode M_X11_lies.2.1 57 = .ok (.iadd, 1) := by decide +kernel
theorem d_X11_lies_58 : decode M_X11_lies.2.1 58 = .ok (.invokevirtual 352, 3) := by decide +kernel
theorem d_X11_lies_61 : decode M_X11_lies.2.1 61 = .ok (.istore 10, 2) := by decide +kernel
theorem d_X11_lies_63 : decode M_X11_lies.2.1 63 = .ok (.iload_n 3, 1) := by decide +kernel
theorem d_X11_lies_64 : decode M_X11_lies.2.1 64 = .ok (.iload 8, 2) := by decide +kernel
theorem d_X11_lies_66 : decode M_X11_lies.2.1 66 = .ok (.iadd, 1) := by decide +kernel
theorem d_X11_lies_67 : decode M_X11_lies.2.1 67 = .ok (.iload 5, 2) := by decide +kernel
theorem d_X11_lies_69 : decode M_X11_lies.2.1 69 = .ok (.if_icmp .lt 31, 3) := by decide +kernel
theorem d_X11_lies_72 : decode M_X11_lies.2.1 72 = .ok (.iload_n 3, 1) := by decide +kernel
theorem d_X11_lies_73 : decode M_X11_lies.2.1 73 = .ok (.iload 8, 2) := by decide +kernel
theorem d_X11_lies_75 : decode M_X11_lies.2.1 75 = .ok (.iadd, 1) := by decide +kernel
theorem d_X11_lies_76 : decode M_X11_lies.2.1 76 = .ok (.iload 6, 2) := by decide +kernel
theorem d_X11_lies_78 : decode M_X11_lies.2.1 78 = .ok (.if_icmp .ge 22, 3) := by decide +kernel
theorem d_X11_lies_81 : decode M_X11_lies.2.1 81 = .ok (.iload 10, 2) := by decide +kernel
theorem d_X11_lies_83 : decode M_X11_lies.2.1 83 = .ok (.iconst 5, 1) := by decide +kernel
theorem d_X11_lies_84 : decode M_X11_lies.2.1 84 = .ok (.if_icmp .eq 18, 3) := by decide +kernel
theorem d_X11_lies_87 : decode M_X11_lies.2.1 87 = .ok (.iload 9, 2) := by decide +kernel
theorem d_X11_lies_89 : decode M_X11_lies.2.1 89 = .ok (.iconst 4, 1) := by decide +kernel
theorem d_X11_lies_90 : decode M_X11_lies.2.1 90 = .ok (.if_icmp .gt 10, 3) := by decide +kernel
theorem d_X11_lies_93 : decode M_X11_lies.2.1 93 = .ok (.iload 10, 2) := by decide +kernel
theorem d_X11_lies_95 : decode M_X11_lies.2.1 95 = .ok (.iload 9, 2) := by decide +kernel
theorem d_X11_lies_97 : decode M_X11_lies.2.1 97 = .ok (.if_icmp .eq 5, 3) := by decide +kernel
theorem d_X11_lies_100 : decode M_X11_lies.2.1 100 = .ok (.iconst 0, 1) := by decide +kernel
theorem d_X11_lies_101 : decode M_X11_lies.2.1 101 = .ok (.ireturn, 1) := by decide +kernel
theorem d_X11_lies_102 : decode M_X11_lies.2.1 102 = .ok (.iinc 8 1, 3) := by decide +kernel
theorem d_X11_lies_105 : decode M_X11_lies.2.1 105 = .ok (.goto (-88), 3) := by decide +kernel
theorem d_X11_lies_108 : decode M_X11_lies.2.1 108 = .ok (.iinc 7 1, 3) := by decide +kernel
theorem d_X11_lies_111 : decode M_X11_lies.2.1 111 = .ok (.goto (-108), 3) := by decide +kernel
theorem d_X11_lies_114 : decode M_X11_lies.2.1 114 = .ok (.iconst 1, 1) := by decide +kernel
theorem d_X11_lies_115 : decode M_X11_lies.2.1 115 = .ok (.ireturn, 1) := by decide +kernel
theorem ce_X11_lies : zw_CeV M_X11_lies 6 := ⟨⟨⟨by decide +kernel, by decide +kernel, by decide +kernel⟩, (zw_mG (List.mem_of_getElem? (i := 1652) (by decide +kernel)) rfl), (zw_mG (List.mem_of_getElem? (i := 108) (by decide +kernel)) rfl), by decide, by decide +kernel⟩, (zw_mG (List.mem_of_getElem? (i := 1651) (by decide +kernel)) rfl), (zw_mG (List.mem_of_getElem? (i := 86) (by decide +kernel)) rfl)⟩
def j_X11_lies_102_17 (v0 : Nat) (v1 : Int32) (v2 : Int32) (v3 : Int32) (v4 : Int32) (v5 : Int32) (v6 : Int32) (v7 : Int32) (v8 : Int32) (I : zI) (R : zR) : Option ((Int32) ⊕ ((Unit) ⊕ (Unit))) :=
  zw_let (v8 + 1 : Int32) fun x15 => (some (.inl x15))
theorem j_X11_lies_102_17_ok (X : zw_X) (P : Option Value → aS → Prop) (v0 : Nat) (v1 : Int32) (v2 : Int32) (v3 : Int32) (v4 : Int32) (v5 : Int32) (v6 : Int32) (v7 : Int32) (v8 : Int32) (I : zI) (R : zR) (J : zJ) (o : (Int32) ⊕ ((Unit) ⊕ (Unit))) (hf : j_X11_lies_102_17 v0 v1 v2 v3 v4 v5 v6 v7 v8 I R = some o) (hk : (zw_se (fun t => zy_V X M_X11_lies 1 P 17 [.ref v0, .int v1, .int v2, .int v3, .int v4, .int v5, .int v6, .int v7, .int t, .null, .null] [] (I, R, J)) (fun r => (zw_se (fun r0 => zy_V X M_X11_lies 1 P 108 [.ref v0, .int v1, .int v2, .int v3, .int v4, .int v5, .int v6, .int v7, .null, .null, .null] [] (I, R, J)) (fun t0 => zy_V X M_X11_lies 1 P 100 [.null, .null, .null, .null, .null, .null, .null, .null, .null, .null, .null] [] (I, R, J)) r)) o)) : zy_V X M_X11_lies 1 P 102 [.ref v0, .int v1, .int v2, .int v3, .int v4, .int v5, .int v6, .int v7, .int v8, .null, .null] [] (I, R, J) := by
  unfold j_X11_lies_102_17 at hf
  obtain ⟨x15, ex15, hf⟩ := zw_letE hf
  refine zx_iinc (pc := 102) (x2 := x15) (L2 := [.ref v0, .int v1, .int v2, .int v3, .int v4, .int v5, .int v6, .int v7, .int x15, .null, .null]) d_X11_lies_102 (by decide) rfl zc_i_1 ex15 rfl ?_
  refine zv_goto (pc := 105) (tg := 17) d_X11_lies_105 (by decide) ?_
  cases hf
  exact zx_weak (zw_leS (zw_leS (zw_leS (zw_leS (zw_leS (zw_leS (zw_leS (zw_leS (zw_leS (zw_leN (zw_leN zw_leZ))))))))))) hk
def s_X11_lies_17 (v0 : Nat) (v1 : Int32) (v2 : Int32) (v3 : Int32) (v4 : Int32) (v5 : Int32) (v6 : Int32) (v7 : Int32) (I : zI) (R : zR) (s : Int32) : Option ((Int32) ⊕ ((Unit) ⊕ (Unit))) :=
  zw_g (zw_gc v0 11) (zw_g (zw_gc (R v0 28) 13) (zw_g (zw_in v1 (zw_SH (R v0 28)).2) (if (I (R v0 28) (Int32.toNatClampNeg v1)) ≤ s then some (.inr (.inl ())) else (f_X11_cellAt v0 v1 s v7 I R).bind fun q9 => (if ¬ q9 = 0 then (f_X11_cellAt v0 v2 (v3 + s) (v4 + v7) I R).bind fun q11 => (if (v3 + s) < v5 then some (.inr (.inr ())) else if v6 ≤ (v3 + s) then some (.inr (.inr ())) else if q11 = 5 then j_X11_lies_102_17 v0 v1 v2 v3 v4 v5 v6 v7 s I R else if 4 < q9 then some (.inr (.inr ())) else if q11 = q9 then j_X11_lies_102_17 v0 v1 v2 v3 v4 v5 v6 v7 s I R else some (.inr (.inr ()))) else j_X11_lies_102_17 v0 v1 v2 v3 v4 v5 v6 v7 s I R))))
theorem s_X11_lies_17_ok (X : zw_X) (P : Option Value → aS → Prop) (v0 : Nat) (v1 : Int32) (v2 : Int32) (v3 : Int32) (v4 : Int32) (v5 : Int32) (v6 : Int32) (v7 : Int32) (I : zI) (R : zR) (J : zJ) (s : Int32) (o : (Int32) ⊕ ((Unit) ⊕ (Unit))) (hf : s_X11_lies_17 v0 v1 v2 v3 v4 v5 v6 v7 I R s = some o) (hk : (zw_se (fun t => zy_V X M_X11_lies 1 P 17 [.ref v0, .int v1, .int v2, .int v3, .int v4, .int v5, .int v6, .int v7, .int t, .null, .null] [] (I, R, J)) (fun r => (zw_se (fun r0 => zy_V X M_X11_lies 1 P 108 [.ref v0, .int v1, .int v2, .int v3, .int v4, .int v5, .int v6, .int v7, .null, .null, .null] [] (I, R, J)) (fun t0 => zy_V X M_X11_lies 1 P 100 [.null, .null, .null, .null, .null, .null, .null, .null, .null, .null, .null] [] (I, R, J)) r)) o)) : zy_V X M_X11_lies 1 P 17 [.ref v0, .int v1, .int v2, .int v3, .int v4, .int v5, .int v6, .int v7, .int s, .null, .null] [] (I, R, J) := by
  unfold s_X11_lies_17 at hf
  refine zv_iload (pc := 17) d_X11_lies_17 rfl ?_
  refine zv_aload_n (pc := 19) d_X11_lies_19 rfl ?_
  obtain ⟨g5, hf⟩ := zw_gcE hf (by decide)
  obtain ⟨g6, hf⟩ := zw_gcE hf (by decide)
  refine zx_getR (pc := 20) d_X11_lies_20 lk_CutStonesModel_64 (by decide) g5 g6 ?_
  refine zv_iload_n (pc := 23) d_X11_lies_23 rfl ?_
  obtain ⟨i7, hf⟩ := zw_inE hf
  refine zx_iald (pc := 24) d_X11_lies_24 g6 i7 ?_
  rcases zw_ifE hf with ⟨c8, hf⟩ | ⟨c8, hf⟩
  · refine zv_icmp_ge (pc := 25) (tg := 108) d_X11_lies_25 (by decide) (fun _ => ?_) (fun q => absurd c8 q)
    cases hf
    exact zx_weak (zw_leS (zw_leS (zw_leS (zw_leS (zw_leS (zw_leS (zw_leS (zw_leS (zw_leN (zw_leN (zw_leN zw_leZ))))))))))) hk
  · refine zv_icmp_ge (pc := 25) (tg := 108) d_X11_lies_25 (by decide) (fun q => absurd q c8) (fun _ => ?_)
    refine zv_aload_n (pc := 28) d_X11_lies_28 rfl ?_
    refine zv_iload_n (pc := 29) d_X11_lies_29 rfl ?_
    refine zv_iload (pc := 30) d_X11_lies_30 rfl ?_
    refine zv_iload (pc := 32) d_X11_lies_32 rfl ?_
    obtain ⟨q9, hq9, hf⟩ := zw_bdE hf
    refine zx_callV (pc := 34) (As := [.int v1, .int s, .int v7]) (o := v0) (st := []) (d2 := 0) (M2 := M_X11_cellAt) (P2 := (fun r S => r = (some (.int q9)) ∧ S = (I, R, J))) d_X11_lies_34 (zw_mG (List.mem_of_getElem? (i := 1533) (by decide +kernel)) rfl) ce_X11_cellAt (zw_RvK g5 rfl rfl) (Nat.le_of_ble_eq_true rfl) rfl (Nat.le_of_ble_eq_true rfl) (by decide) (c_X11_cellAt X v0 v1 s v7 I R J _ hq9 ⟨rfl, rfl⟩) ?_
    rintro _ _ ⟨rfl, rfl⟩
    show zy_V X M_X11_lies 1 P (34 + 3) [.ref v0, .int v1, .int v2, .int v3, .int v4, .int v5, .int v6, .int v7, .int s, .null, .null] [.int q9] (I, R, J)
    refine zx_istore (pc := 37) (x2 := q9) (L2 := [.ref v0, .int v1, .int v2, .int v3, .int v4, .int v5, .int v6, .int v7, .int s, .int q9, .null]) d_X11_lies_37 (by decide) rfl rfl ?_
    refine zv_iload (pc := 39) d_X11_lies_39 rfl ?_
    rcases zw_ifE hf with ⟨c10, hf⟩ | ⟨c10, hf⟩
    · refine zv_if_ne (pc := 41) (tg := 47) d_X11_lies_41 (by decide) (fun _ => ?_) (fun q => absurd q c10)
      refine zv_aload_n (pc := 47) d_X11_lies_47 rfl ?_
      refine zv_iload_n (pc := 48) d_X11_lies_48 rfl ?_
      refine zv_iload_n (pc := 49) d_X11_lies_49 rfl ?_
      refine zv_iload (pc := 50) d_X11_lies_50 rfl ?_
      refine zv_iadd (pc := 52) d_X11_lies_52 ?_
      refine zv_iload (pc := 53) d_X11_lies_53 rfl ?_
      refine zv_iload (pc := 55) d_X11_lies_55 rfl ?_
      refine zv_iadd (pc := 57) d_X11_lies_57 ?_
      obtain ⟨q11, hq11, hf⟩ := zw_bdE hf
      refine zx_callV (pc := 58) (As := [.int v2, .int (v3 + s), .int (v4 + v7)]) (o := v0) (st := []) (d2 := 0) (M2 := M_X11_cellAt) (P2 := (fun r S => r = (some (.int q11)) ∧ S = (I, R, J))) d_X11_lies_58 (zw_mG (List.mem_of_getElem? (i := 1533) (by decide +kernel)) rfl) ce_X11_cellAt (zw_RvK g5 rfl rfl) (Nat.le_of_ble_eq_true rfl) rfl (Nat.le_of_ble_eq_true rfl) (by decide) (c_X11_cellAt X v0 v2 (v3 + s) (v4 + v7) I R J _ hq11 ⟨rfl, rfl⟩) ?_
      rintro _ _ ⟨rfl, rfl⟩
      show zy_V X M_X11_lies 1 P (58 + 3) [.ref v0, .int v1, .int v2, .int v3, .int v4, .int v5, .int v6, .int v7, .int s, .int q9, .null] [.int q11] (I, R, J)
      refine zx_istore (pc := 61) (x2 := q11) (L2 := [.ref v0, .int v1, .int v2, .int v3, .int v4, .int v5, .int v6, .int v7, .int s, .int q9, .int q11]) d_X11_lies_61 (by decide) rfl rfl ?_
      refine zv_iload_n (pc := 63) d_X11_lies_63 rfl ?_
      refine zv_iload (pc := 64) d_X11_lies_64 rfl ?_
      refine zv_iadd (pc := 66) d_X11_lies_66 ?_
      refine zv_iload (pc := 67) d_X11_lies_67 rfl ?_
      rcases zw_ifE hf with ⟨c12, hf⟩ | ⟨c12, hf⟩
      · refine zv_icmp_lt (pc := 69) (tg := 100) d_X11_lies_69 (by decide) (fun _ => ?_) (fun q => absurd c12 q)
        cases hf
        exact zx_weak (zw_leN (zw_leN (zw_leN (zw_leN (zw_leN (zw_leN (zw_leN (zw_leN (zw_leN (zw_leN (zw_leN zw_leZ))))))))))) hk
      · refine zv_icmp_lt (pc := 69) (tg := 100) d_X11_lies_69 (by decide) (fun q => absurd q c12) (fun _ => ?_)
        refine zv_iload_n (pc := 72) d_X11_lies_72 rfl ?_
        refine zv_iload (pc := 73) d_X11_lies_73 rfl ?_
        refine zv_iadd (pc := 75) d_X11_lies_75 ?_
        refine zv_iload (pc := 76) d_X11_lies_76 rfl ?_
        rcases zw_ifE hf with ⟨c13, hf⟩ | ⟨c13, hf⟩
        · refine zv_icmp_ge (pc := 78) (tg := 100) d_X11_lies_78 (by decide) (fun _ => ?_) (fun q => absurd c13 q)
          cases hf
          exact zx_weak (zw_leN (zw_leN (zw_leN (zw_leN (zw_leN (zw_leN (zw_leN (zw_leN (zw_leN (zw_leN (zw_leN zw_leZ))))))))))) hk
        · refine zv_icmp_ge (pc := 78) (tg := 100) d_X11_lies_78 (by decide) (fun q => absurd q c13) (fun _ => ?_)
          refine zv_iload (pc := 81) d_X11_lies_81 rfl ?_
          refine zv_iconst (pc := 83) d_X11_lies_83 zc_i_5 ?_
          rcases zw_ifE hf with ⟨c14, hf⟩ | ⟨c14, hf⟩
          · refine zv_icmp_eq (pc := 84) (tg := 102) d_X11_lies_84 (by decide) (fun _ => ?_) (fun q => absurd c14 q)
            exact zx_weak (zw_leS (zw_leS (zw_leS (zw_leS (zw_leS (zw_leS (zw_leS (zw_leS (zw_leS (zw_leN (zw_leN zw_leZ))))))))))) (j_X11_lies_102_17_ok X P v0 v1 v2 v3 v4 v5 v6 v7 s I R J _ hf hk)
          · refine zv_icmp_eq (pc := 84) (tg := 102) d_X11_lies_84 (by decide) (fun q => absurd q c14) (fun _ => ?_)
            refine zv_iload (pc := 87) d_X11_lies_87 rfl ?_
            refine zv_iconst (pc := 89) d_X11_lies_89 zc_i_4 ?_
            rcases zw_ifE hf with ⟨c16, hf⟩ | ⟨c16, hf⟩
            · refine zv_icmp_gt (pc := 90) (tg := 100) d_X11_lies_90 (by decide) (fun _ => ?_) (fun q => absurd c16 q)
              cases hf
              exact zx_weak (zw_leN (zw_leN (zw_leN (zw_leN (zw_leN (zw_leN (zw_leN (zw_leN (zw_leN (zw_leN (zw_leN zw_leZ))))))))))) hk
            · refine zv_icmp_gt (pc := 90) (tg := 100) d_X11_lies_90 (by decide) (fun q => absurd q c16) (fun _ => ?_)
              refine zv_iload (pc := 93) d_X11_lies_93 rfl ?_
              refine zv_iload (pc := 95) d_X11_lies_95 rfl ?_
              rcases zw_ifE hf with ⟨c17, hf⟩ | ⟨c17, hf⟩
              · refine zv_icmp_eq (pc := 97) (tg := 102) d_X11_lies_97 (by decide) (fun _ => ?_) (fun q => absurd c17 q)
                exact zx_weak (zw_leS (zw_leS (zw_leS (zw_leS (zw_leS (zw_leS (zw_leS (zw_leS (zw_leS (zw_leN (zw_leN zw_leZ))))))))))) (j_X11_lies_102_17_ok X P v0 v1 v2 v3 v4 v5 v6 v7 s I R J _ hf hk)
              · refine zv_icmp_eq (pc := 97) (tg := 102) d_X11_lies_97 (by decide) (fun q => absurd q c17) (fun _ => ?_)
                cases hf
                exact zx_weak (zw_leN (zw_leN (zw_leN (zw_leN (zw_leN (zw_leN (zw_leN (zw_leN (zw_leN (zw_leN (zw_leN zw_leZ))))))))))) hk
    · refine zv_if_ne (pc := 41) (tg := 47) d_X11_lies_41 (by decide) (fun q => absurd q c10) (fun _ => ?_)
      refine zv_goto (pc := 44) (tg := 102) d_X11_lies_44 (by decide) ?_
      exact zx_weak (zw_leS (zw_leS (zw_leS (zw_leS (zw_leS (zw_leS (zw_leS (zw_leS (zw_leS (zw_leN (zw_leN zw_leZ))))))))))) (j_X11_lies_102_17_ok X P v0 v1 v2 v3 v4 v5 v6 v7 s I R J _ hf hk)
theorem s_X11_lies_17_lp (X : zw_X) (P : Option Value → aS → Prop) (v0 : Nat) (v1 : Int32) (v2 : Int32) (v3 : Int32) (v4 : Int32) (v5 : Int32) (v6 : Int32) (v7 : Int32) (I : zI) (R : zR) (J : zJ) (n : Nat) (s : Int32) (r : (Unit) ⊕ (Unit)) (h : zw_it (s_X11_lies_17 v0 v1 v2 v3 v4 v5 v6 v7 I R) n s = some r) (hq : (zw_se (fun r0 => zy_V X M_X11_lies 1 P 108 [.ref v0, .int v1, .int v2, .int v3, .int v4, .int v5, .int v6, .int v7, .null, .null, .null] [] (I, R, J)) (fun t0 => zy_V X M_X11_lies 1 P 100 [.null, .null, .null, .null, .null, .null, .null, .null, .null, .null, .null] [] (I, R, J)) r)) : zy_V X M_X11_lies 1 P 17 [.ref v0, .int v1, .int v2, .int v3, .int v4, .int v5, .int v6, .int v7, .int s, .null, .null] [] (I, R, J) :=
  zw_itE (A := (fun t : Int32 => zy_V X M_X11_lies 1 P 17 [.ref v0, .int v1, .int v2, .int v3, .int v4, .int v5, .int v6, .int v7, .int t, .null, .null] [] (I, R, J))) (Q := (fun r : (Unit) ⊕ (Unit) => (zw_se (fun r0 => zy_V X M_X11_lies 1 P 108 [.ref v0, .int v1, .int v2, .int v3, .int v4, .int v5, .int v6, .int v7, .null, .null, .null] [] (I, R, J)) (fun t0 => zy_V X M_X11_lies 1 P 100 [.null, .null, .null, .null, .null, .null, .null, .null, .null, .null, .null] [] (I, R, J)) r))) (fun s o h1 h2 => s_X11_lies_17_ok X P v0 v1 v2 v3 v4 v5 v6 v7 I R J s o h1 h2) n s r h hq
def s_X11_lies_3 (v0 : Nat) (v1 : Int32) (v2 : Int32) (v3 : Int32) (v4 : Int32) (v5 : Int32) (v6 : Int32) (I : zI) (R : zR) (s : Int32) : Option ((Int32) ⊕ ((Unit) ⊕ (Unit))) :=
  zw_g (zw_gc v0 11) (zw_g (zw_gc (R v0 29) 13) (zw_g (zw_in v1 (zw_SH (R v0 29)).2) (if (I (R v0 29) (Int32.toNatClampNeg v1)) ≤ s then some (.inr (.inl ())) else (zw_it (s_X11_lies_17 v0 v1 v2 v3 v4 v5 v6 s I R) 1000000 0).bind fun q18 => (match q18 with | .inl a19 => (zw_let (s + 1 : Int32) fun x21 => (some (.inl x21))) | .inr a20 => (some (.inr (.inr ())))))))
theorem s_X11_lies_3_ok (X : zw_X) (P : Option Value → aS → Prop) (v0 : Nat) (v1 : Int32) (v2 : Int32) (v3 : Int32) (v4 : Int32) (v5 : Int32) (v6 : Int32) (I : zI) (R : zR) (J : zJ) (s : Int32) (o : (Int32) ⊕ ((Unit) ⊕ (Unit))) (hf : s_X11_lies_3 v0 v1 v2 v3 v4 v5 v6 I R s = some o) (hk : (zw_se (fun t => zy_V X M_X11_lies 1 P 3 [.ref v0, .int v1, .int v2, .int v3, .int v4, .int v5, .int v6, .int t, .null, .null, .null] [] (I, R, J)) (fun r => (zw_se (fun r0 => zy_V X M_X11_lies 1 P 114 [.null, .null, .null, .null, .null, .null, .null, .null, .null, .null, .null] [] (I, R, J)) (fun t0 => zy_V X M_X11_lies 1 P 100 [.null, .null, .null, .null, .null, .null, .null, .null, .null, .null, .null] [] (I, R, J)) r)) o)) : zy_V X M_X11_lies 1 P 3 [.ref v0, .int v1, .int v2, .int v3, .int v4, .int v5, .int v6, .int s, .null, .null, .null] [] (I, R, J) := by
  unfold s_X11_lies_3 at hf
  refine zv_iload (pc := 3) d_X11_lies_3 rfl ?_
  refine zv_aload_n (pc := 5) d_X11_lies_5 rfl ?_
  obtain ⟨g1, hf⟩ := zw_gcE hf (by decide)
  obtain ⟨g2, hf⟩ := zw_gcE hf (by decide)
  refine zx_getR (pc := 6) d_X11_lies_6 lk_CutStonesModel_67 (by decide) g1 g2 ?_
  refine zv_iload_n (pc := 9) d_X11_lies_9 rfl ?_
  obtain ⟨i3, hf⟩ := zw_inE hf
  refine zx_iald (pc := 10) d_X11_lies_10 g2 i3 ?_
  rcases zw_ifE hf with ⟨c4, hf⟩ | ⟨c4, hf⟩
  · refine zv_icmp_ge (pc := 11) (tg := 114) d_X11_lies_11 (by decide) (fun _ => ?_) (fun q => absurd c4 q)
    cases hf
    exact zx_weak (zw_leN (zw_leN (zw_leN (zw_leN (zw_leN (zw_leN (zw_leN (zw_leN (zw_leN (zw_leN (zw_leN zw_leZ))))))))))) hk
  · refine zv_icmp_ge (pc := 11) (tg := 114) d_X11_lies_11 (by decide) (fun q => absurd q c4) (fun _ => ?_)
    refine zv_iconst (pc := 14) d_X11_lies_14 zc_i_0 ?_
    refine zx_istore (pc := 15) (x2 := 0) (L2 := [.ref v0, .int v1, .int v2, .int v3, .int v4, .int v5, .int v6, .int s, .int 0, .null, .null]) d_X11_lies_15 (by decide) rfl rfl ?_
    obtain ⟨q18, hq18, hf⟩ := zw_bdE hf
    refine zx_weak (L' := [.ref v0, .int v1, .int v2, .int v3, .int v4, .int v5, .int v6, .int s, .int 0, .null, .null]) (zw_leS (zw_leS (zw_leS (zw_leS (zw_leS (zw_leS (zw_leS (zw_leS (zw_leS (zw_leN (zw_leN zw_leZ))))))))))) (s_X11_lies_17_lp X P v0 v1 v2 v3 v4 v5 v6 s I R J _ _ _ hq18 ?_)
    rcases q18 with a19 | a20
    ·
      show zy_V X M_X11_lies 1 P 108 [.ref v0, .int v1, .int v2, .int v3, .int v4, .int v5, .int v6, .int s, .null, .null, .null] [] (I, R, J)
      obtain ⟨x21, ex21, hf⟩ := zw_letE hf
      refine zx_iinc (pc := 108) (x2 := x21) (L2 := [.ref v0, .int v1, .int v2, .int v3, .int v4, .int v5, .int v6, .int x21, .null, .null, .null]) d_X11_lies_108 (by decide) rfl zc_i_1 ex21 rfl ?_
      refine zv_goto (pc := 111) (tg := 3) d_X11_lies_111 (by decide) ?_
      cases hf
      exact zx_weak (zw_leS (zw_leS (zw_leS (zw_leS (zw_leS (zw_leS (zw_leS (zw_leS (zw_leN (zw_leN (zw_leN zw_leZ))))))))))) hk
    ·
      show zy_V X M_X11_lies 1 P 100 [.null, .null, .null, .null, .null, .null, .null, .null, .null, .null, .null] [] (I, R, J)
      cases hf
      exact zx_weak (zw_leN (zw_leN (zw_leN (zw_leN (zw_leN (zw_leN (zw_leN (zw_leN (zw_leN (zw_leN (zw_leN zw_leZ))))))))))) hk
theorem s_X11_lies_3_lp (X : zw_X) (P : Option Value → aS → Prop) (v0 : Nat) (v1 : Int32) (v2 : Int32) (v3 : Int32) (v4 : Int32) (v5 : Int32) (v6 : Int32) (I : zI) (R : zR) (J : zJ) (n : Nat) (s : Int32) (r : (Unit) ⊕ (Unit)) (h : zw_it (s_X11_lies_3 v0 v1 v2 v3 v4 v5 v6 I R) n s = some r) (hq : (zw_se (fun r0 => zy_V X M_X11_lies 1 P 114 [.null, .null, .null, .null, .null, .null, .null, .null, .null, .null, .null] [] (I, R, J)) (fun t0 => zy_V X M_X11_lies 1 P 100 [.null, .null, .null, .null, .null, .null, .null, .null, .null, .null, .null] [] (I, R, J)) r)) : zy_V X M_X11_lies 1 P 3 [.ref v0, .int v1, .int v2, .int v3, .int v4, .int v5, .int v6, .int s, .null, .null, .null] [] (I, R, J) :=
  zw_itE (A := (fun t : Int32 => zy_V X M_X11_lies 1 P 3 [.ref v0, .int v1, .int v2, .int v3, .int v4, .int v5, .int v6, .int t, .null, .null, .null] [] (I, R, J))) (Q := (fun r : (Unit) ⊕ (Unit) => (zw_se (fun r0 => zy_V X M_X11_lies 1 P 114 [.null, .null, .null, .null, .null, .null, .null, .null, .null, .null, .null] [] (I, R, J)) (fun t0 => zy_V X M_X11_lies 1 P 100 [.null, .null, .null, .null, .null, .null, .null, .null, .null, .null, .null] [] (I, R, J)) r))) (fun s o h1 h2 => s_X11_lies_3_ok X P v0 v1 v2 v3 v4 v5 v6 I R J s o h1 h2) n s r h hq
def f_X11_lies (v0 : Nat) (v1 : Int32) (v2 : Int32) (v3 : Int32) (v4 : Int32) (v5 : Int32) (v6 : Int32) (I : zI) (R : zR) : Option (Int32) :=
  (zw_it (s_X11_lies_3 v0 v1 v2 v3 v4 v5 v6 I R) 1000000 0).bind fun q22 => (match q22 with | .inl a23 => (some 1) | .inr a24 => (some 0))
theorem c_X11_lies (X : zw_X) (v0 : Nat) (v1 : Int32) (v2 : Int32) (v3 : Int32) (v4 : Int32) (v5 : Int32) (v6 : Int32) (I : zI) (R : zR) (J : zJ) {P : Option Value → aS → Prop} (o : Int32) (hf : f_X11_lies v0 v1 v2 v3 v4 v5 v6 I R = some o) (hk : P (some (.int o)) (I, R, J)) : zw_C X M_X11_lies 1 0 0 199 [.ref v0, .int v1, .int v2, .int v3, .int v4, .int v5, .int v6] (I, R, J) P := by
  show zy_V X M_X11_lies 1 P 0 [.ref v0, .int v1, .int v2, .int v3, .int v4, .int v5, .int v6, .null, .null, .null, .null] [] (I, R, J)
  unfold f_X11_lies at hf
  refine zv_iconst (pc := 0) d_X11_lies_0 zc_i_0 ?_
  refine zx_istore (pc := 1) (x2 := 0) (L2 := [.ref v0, .int v1, .int v2, .int v3, .int v4, .int v5, .int v6, .int 0, .null, .null, .null]) d_X11_lies_1 (by decide) rfl rfl ?_
  obtain ⟨q22, hq22, hf⟩ := zw_bdE hf
  refine zx_weak (L' := [.ref v0, .int v1, .int v2, .int v3, .int v4, .int v5, .int v6, .int 0, .null, .null, .null]) (zw_leS (zw_leS (zw_leS (zw_leS (zw_leS (zw_leS (zw_leS (zw_leS (zw_leN (zw_leN (zw_leN zw_leZ))))))))))) (s_X11_lies_3_lp X P v0 v1 v2 v3 v4 v5 v6 I R J _ _ _ hq22 ?_)
  rcases q22 with a23 | a24
  ·
    show zy_V X M_X11_lies 1 P 114 [.null, .null, .null, .null, .null, .null, .null, .null, .null, .null, .null] [] (I, R, J)
    refine zv_iconst (pc := 114) d_X11_lies_114 zc_i_1 ?_
    cases hf
    exact zx_zret (pc := 115) d_X11_lies_115 rfl (Or.inr rfl) hk
  ·
    show zy_V X M_X11_lies 1 P 100 [.null, .null, .null, .null, .null, .null, .null, .null, .null, .null, .null] [] (I, R, J)
    refine zv_iconst (pc := 100) d_X11_lies_100 zc_i_0 ?_
    cases hf
    exact zx_zret (pc := 101) d_X11_lies_101 rfl (Or.inl rfl) hk
abbrev M_X11_roughRow : zw_M := (⟨"CutStonesModel", "roughRow", "(I)I"⟩, prog_13_method_48_code, 2, (Option.some Jvm.ClassFile.FieldType.int))
theorem d_X11_roughRow_0 : decode M_X11_roughRow.2.1 0 = .ok (.iload_n 1, 1) := by decide +kernel
theorem d_X11_roughRow_1 : decode M_X11_roughRow.2.1 1 = .ok (.iconst 0, 1) := by decide +kernel
theorem d_X11_roughRow_2 : decode M_X11_roughRow.2.1 2 = .ok (.aload_n 0, 1) := by decide +kernel
theorem d_X11_roughRow_3 : decode M_X11_roughRow.2.1 3 = .ok (.getfield 61, 3) := by decide +kernel
theorem d_X11_roughRow_6 : decode M_X11_roughRow.2.1 6 = .ok (.aload_n 0, 1) := by decide +kernel
theorem d_X11_roughRow_7 : decode M_X11_roughRow.2.1 7 = .ok (.getfield 248, 3) := by decide +kernel
theorem d_X11_roughRow_10 : decode M_X11_roughRow.2.1 10 = .ok (.iaload, 1) := by decide +kernel
theorem d_X11_roughRow_11 : decode M_X11_roughRow.2.1 11 = .ok (.iconst 1, 1) := by decide +kernel
theorem d_X11_roughRow_12 : decode M_X11_roughRow.2.1 12 = .ok (.isub, 1) := by decide +kernel
theorem d_X11_roughRow_13 : decode M_X11_roughRow.2.1 13 = .ok (.invokestatic 373, 3) := by decide +kernel
theorem d_X11_roughRow_16 : decode M_X11_roughRow.2.1 16 = .ok (.ifCond .eq 18, 3) := by decide +kernel
theorem d_X11_roughRow_19 : decode M_X11_roughRow.2.1 19 = .ok (.bipush 10, 2) := by decide +kernel
theorem d_X11_roughRow_21 : decode M_X11_roughRow.2.1 21 = .ok (.aload_n 0, 1) := by decide +kernel
theorem d_X11_roughRow_22 : decode M_X11_roughRow.2.1 22 = .ok (.getfield 248, 3) := by decide +kernel
theorem d_X11_roughRow_25 : decode M_X11_roughRow.2.1 25 = .ok (.imul, 1) := by decide +kernel
theorem d_X11_roughRow_26 : decode M_X11_roughRow.2.1 26 = .ok (.bipush 6, 2) := by decide +kernel
theorem d_X11_roughRow_28 : decode M_X11_roughRow.2.1 28 = .ok (.iadd, 1) := by decide +kernel
theorem d_X11_roughRow_29 : decode M_X11_roughRow.2.1 29 = .ok (.iload_n 1, 1) := by decide +kernel
theorem d_X11_roughRow_30 : decode M_X11_roughRow.2.1 30 = .ok (.iadd, 1) := by decide +kernel
theorem d_X11_roughRow_31 : decode M_X11_roughRow.2.1 31 = .ok (.goto 4, 3) := by decide +kernel
theorem d_X11_roughRow_34 : decode M_X11_roughRow.2.1 34 = .ok (.iconst (-1), 1) := by decide +kernel
theorem d_X11_roughRow_35 : decode M_X11_roughRow.2.1 35 = .ok (.ireturn, 1) := by decide +kernel
theorem ce_X11_roughRow : zw_CeV M_X11_roughRow 1 := ⟨⟨⟨by decide +kernel, by decide +kernel, by decide +kernel⟩, (zw_mG (List.mem_of_getElem? (i := 1521) (by decide +kernel)) rfl), (zw_mG (List.mem_of_getElem? (i := 108) (by decide +kernel)) rfl), by decide, by decide +kernel⟩, (zw_mG (List.mem_of_getElem? (i := 1520) (by decide +kernel)) rfl), (zw_mG (List.mem_of_getElem? (i := 71) (by decide +kernel)) rfl)⟩
def f_X11_roughRow (v0 : Nat) (v1 : Int32) (I : zI) (R : zR) : Option (Int32) :=
  zw_g (zw_gc v0 11) (zw_g (zw_gc (R v0 27) 13) (zw_g (zw_in (I v0 18) (zw_SH (R v0 27)).2) ((f_X11_in v1 0 ((I (R v0 27) (Int32.toNatClampNeg (I v0 18))) - 1)).bind fun q4 => (if q4 = 0 then some (-1) else some (((10 * (I v0 18)) + 6) + v1)))))
theorem c_X11_roughRow (X : zw_X) (v0 : Nat) (v1 : Int32) (I : zI) (R : zR) (J : zJ) {P : Option Value → aS → Prop} (o : Int32) (hf : f_X11_roughRow v0 v1 I R = some o) (hk : P (some (.int o)) (I, R, J)) : zw_C X M_X11_roughRow 1 0 0 199 [.ref v0, .int v1] (I, R, J) P := by
  show zy_V X M_X11_roughRow 1 P 0 [.ref v0, .int v1] [] (I, R, J)
  unfold f_X11_roughRow at hf
  refine zv_iload_n (pc := 0) d_X11_roughRow_0 rfl ?_
  refine zv_iconst (pc := 1) d_X11_roughRow_1 zc_i_0 ?_
  refine zv_aload_n (pc := 2) d_X11_roughRow_2 rfl ?_
  obtain ⟨g1, hf⟩ := zw_gcE hf (by decide)
  obtain ⟨g2, hf⟩ := zw_gcE hf (by decide)
  refine zx_getR (pc := 3) d_X11_roughRow_3 lk_CutStonesModel_61 (by decide) g1 g2 ?_
  refine zv_aload_n (pc := 6) d_X11_roughRow_6 rfl ?_
  refine zx_getI (pc := 7) d_X11_roughRow_7 lk_CutStonesModel_248 (by decide) g1 ?_
  obtain ⟨i3, hf⟩ := zw_inE hf
  refine zx_iald (pc := 10) d_X11_roughRow_10 g2 i3 ?_
  refine zv_iconst (pc := 11) d_X11_roughRow_11 zc_i_1 ?_
  refine zv_isub (pc := 12) d_X11_roughRow_12 ?_
  obtain ⟨q4, hq4, hf⟩ := zw_bdE hf
  refine zx_callS (pc := 13) (As := [.int v1, .int 0, .int ((I (R v0 27) (Int32.toNatClampNeg (I v0 18))) - 1)]) (st := []) (d2 := 0) (M2 := M_X11_in) (P2 := (fun r S => r = (some (.int q4)) ∧ S = (I, R, J))) d_X11_roughRow_13 (zw_mG (List.mem_of_getElem? (i := 1522) (by decide +kernel)) rfl) ce_X11_in (Nat.le_of_ble_eq_true rfl) rfl (Nat.le_of_ble_eq_true rfl) (by decide) (c_X11_in X v1 0 ((I (R v0 27) (Int32.toNatClampNeg (I v0 18))) - 1) I R J _ hq4 ⟨rfl, rfl⟩) ?_
  rintro _ _ ⟨rfl, rfl⟩
  show zy_V X M_X11_roughRow 1 P (13 + 3) [.ref v0, .int v1] [.int q4] (I, R, J)
  rcases zw_ifE hf with ⟨c5, hf⟩ | ⟨c5, hf⟩
  · refine zv_if_eq (pc := 16) (tg := 34) d_X11_roughRow_16 (by decide) (fun _ => ?_) (fun q => absurd c5 q)
    refine zv_iconst (pc := 34) d_X11_roughRow_34 zc_i_m1 ?_
    cases hf
    exact zx_iret (pc := 35) d_X11_roughRow_35 rfl hk
  · refine zv_if_eq (pc := 16) (tg := 34) d_X11_roughRow_16 (by decide) (fun q => absurd q c5) (fun _ => ?_)
    refine zv_bipush (pc := 19) d_X11_roughRow_19 zc_b_10 ?_
    refine zv_aload_n (pc := 21) d_X11_roughRow_21 rfl ?_
    refine zx_getI (pc := 22) d_X11_roughRow_22 lk_CutStonesModel_248 (by decide) g1 ?_
    refine zv_imul (pc := 25) d_X11_roughRow_25 ?_
    refine zv_bipush (pc := 26) d_X11_roughRow_26 zc_b_6 ?_
    refine zv_iadd (pc := 28) d_X11_roughRow_28 ?_
    refine zv_iload_n (pc := 29) d_X11_roughRow_29 rfl ?_
    refine zv_iadd (pc := 30) d_X11_roughRow_30 ?_
    refine zv_goto (pc := 31) (tg := 35) d_X11_roughRow_31 (by decide) ?_
    cases hf
    exact zx_iret (pc := 35) d_X11_roughRow_35 rfl hk
abbrev M_X11_seen : zw_M := (⟨"CutStonesModel", "seen", "(I)I"⟩, prog_13_method_62_code, 2, (Option.some Jvm.ClassFile.FieldType.int))
theorem d_X11_seen_0 : decode M_X11_seen.2.1 0 = .ok (.aload_n 0, 1) := by decide +kernel
theorem d_X11_seen_1 : decode M_X11_seen.2.1 1 = .ok (.getfield 267, 3) := by decide +kernel
theorem d_X11_seen_4 : decode M_X11_seen.2.1 4 = .ok (.ifCond .eq 22, 3) := by decide +kernel
theorem d_X11_seen_7 : decode M_X11_seen.2.1 7 = .ok (.iload_n 1, 1) := by decide +kernel
theorem d_X11_seen_8 : decode M_X11_seen.2.1 8 = .ok (.iconst 0, 1) := by decide +kernel
theorem d_X11_seen_9 : decode M_X11_seen.2.1 9 = .ok (.bipush 8, 2) := by decide +kernel
theorem d_X11_seen_11 : decode M_X11_seen.2.1 11 = .ok (.invokestatic 373, 3) := by decide +kernel
theorem d_X11_seen_14 : decode M_X11_seen.2.1 14 = .ok (.ifCond .eq 12, 3) := by decide +kernel
theorem d_X11_seen_17 : decode M_X11_seen.2.1 17 = .ok (.aload_n 0, 1) := by decide +kernel
theorem d_X11_seen_18 : decode M_X11_seen.2.1 18 = .ok (.getfield 143, 3) := by decide +kernel
theorem d_X11_seen_21 : decode M_X11_seen.2.1 21 = .ok (.iload_n 1, 1) := by decide +kernel
theorem d_X11_seen_22 : decode M_X11_seen.2.1 22 = .ok (.iaload, 1) := by decide +kernel
theorem d_X11_seen_23 : decode M_X11_seen.2.1 23 = .ok (.goto 4, 3) := by decide +kernel
theorem d_X11_seen_26 : decode M_X11_seen.2.1 26 = .ok (.iconst (-1), 1) := by decide +kernel
theorem d_X11_seen_27 : decode M_X11_seen.2.1 27 = .ok (.ireturn, 1) := by decide +kernel
theorem ce_X11_seen : zw_CeV M_X11_seen 1 := ⟨⟨⟨by decide +kernel, by decide +kernel, by decide +kernel⟩, (zw_mG (List.mem_of_getElem? (i := 1611) (by decide +kernel)) rfl), (zw_mG (List.mem_of_getElem? (i := 108) (by decide +kernel)) rfl), by decide, by decide +kernel⟩, (zw_mG (List.mem_of_getElem? (i := 1609) (by decide +kernel)) rfl), (zw_mG (List.mem_of_getElem? (i := 1610) (by decide +kernel)) rfl)⟩
def f_X11_seen (v0 : Nat) (v1 : Int32) (I : zI) (R : zR) : Option (Int32) :=
  zw_g (zw_gc v0 11) (if (I v0 65) = 0 then some (-1) else (f_X11_in v1 0 8).bind fun q3 => (if q3 = 0 then some (-1) else zw_g (zw_gc (R v0 68) 13) (zw_g (zw_in v1 (zw_SH (R v0 68)).2) (some (I (R v0 68) (Int32.toNatClampNeg v1))))))
theorem c_X11_seen (X : zw_X) (v0 : Nat) (v1 : Int32) (I : zI) (R : zR) (J : zJ) {P : Option Value → aS → Prop} (o : Int32) (hf : f_X11_seen v0 v1 I R = some o) (hk : P (some (.int o)) (I, R, J)) : zw_C X M_X11_seen 1 0 0 199 [.ref v0, .int v1] (I, R, J) P := by
  show zy_V X M_X11_seen 1 P 0 [.ref v0, .int v1] [] (I, R, J)
  unfold f_X11_seen at hf
  refine zv_aload_n (pc := 0) d_X11_seen_0 rfl ?_
  obtain ⟨g1, hf⟩ := zw_gcE hf (by decide)
  refine zx_getI (pc := 1) d_X11_seen_1 lk_CutStonesModel_267 (by decide) g1 ?_
  rcases zw_ifE hf with ⟨c2, hf⟩ | ⟨c2, hf⟩
  · refine zv_if_eq (pc := 4) (tg := 26) d_X11_seen_4 (by decide) (fun _ => ?_) (fun q => absurd c2 q)
    refine zv_iconst (pc := 26) d_X11_seen_26 zc_i_m1 ?_
    cases hf
    exact zx_iret (pc := 27) d_X11_seen_27 rfl hk
  · refine zv_if_eq (pc := 4) (tg := 26) d_X11_seen_4 (by decide) (fun q => absurd q c2) (fun _ => ?_)
    refine zv_iload_n (pc := 7) d_X11_seen_7 rfl ?_
    refine zv_iconst (pc := 8) d_X11_seen_8 zc_i_0 ?_
    refine zv_bipush (pc := 9) d_X11_seen_9 zc_b_8 ?_
    obtain ⟨q3, hq3, hf⟩ := zw_bdE hf
    refine zx_callS (pc := 11) (As := [.int v1, .int 0, .int 8]) (st := []) (d2 := 0) (M2 := M_X11_in) (P2 := (fun r S => r = (some (.int q3)) ∧ S = (I, R, J))) d_X11_seen_11 (zw_mG (List.mem_of_getElem? (i := 1522) (by decide +kernel)) rfl) ce_X11_in (Nat.le_of_ble_eq_true rfl) rfl (Nat.le_of_ble_eq_true rfl) (by decide) (c_X11_in X v1 0 8 I R J _ hq3 ⟨rfl, rfl⟩) ?_
    rintro _ _ ⟨rfl, rfl⟩
    show zy_V X M_X11_seen 1 P (11 + 3) [.ref v0, .int v1] [.int q3] (I, R, J)
    rcases zw_ifE hf with ⟨c4, hf⟩ | ⟨c4, hf⟩
    · refine zv_if_eq (pc := 14) (tg := 26) d_X11_seen_14 (by decide) (fun _ => ?_) (fun q => absurd c4 q)
      refine zv_iconst (pc := 26) d_X11_seen_26 zc_i_m1 ?_
      cases hf
      exact zx_iret (pc := 27) d_X11_seen_27 rfl hk
    · refine zv_if_eq (pc := 14) (tg := 26) d_X11_seen_14 (by decide) (fun q => absurd q c4) (fun _ => ?_)
      refine zv_aload_n (pc := 17) d_X11_seen_17 rfl ?_
      obtain ⟨g5, hf⟩ := zw_gcE hf (by decide)
      refine zx_getR (pc := 18) d_X11_seen_18 lk_CutStonesModel_143 (by decide) g1 g5 ?_
      refine zv_iload_n (pc := 21) d_X11_seen_21 rfl ?_
      obtain ⟨i6, hf⟩ := zw_inE hf
      refine zx_iald (pc := 22) d_X11_seen_22 g5 i6 ?_
      refine zv_goto (pc := 23) (tg := 27) d_X11_seen_23 (by decide) ?_
      cases hf
      exact zx_iret (pc := 27) d_X11_seen_27 rfl hk
abbrev M_X11_sign : zw_M := (⟨"CutStonesModel", "sign", "(III)I"⟩, prog_13_method_14_code, 6, (Option.some Jvm.ClassFile.FieldType.int))
theorem d_X11_sign_0 : decode M_X11_sign.2.1 0 = .ok (.iload_n 3, 1) := by decide +kernel
theorem d_X11_sign_1 : decode M_X11_sign.2.1 1 = .ok (.bipush 61, 2) := by decide +kernel
theorem d_X11_sign_3 : decode M_X11_sign.2.1 3 = .ok (.if_icmp .eq 7, 3) := by decide +kernel
theorem d_X11_sign_6 : decode M_X11_sign.2.1 6 = .ok (.iconst 0, 1) := by decide +kernel
theorem d_X11_sign_7 : decode M_X11_sign.2.1 7 = .ok (.goto 37, 3) := by decide +kernel
theorem d_X11_sign_10 : decode M_X11_sign.2.1 10 = .ok (.iload_n 2, 1) := by decide +kernel
theorem d_X11_sign_11 : decode M_X11_sign.2.1 11 = .ok (.bipush 61, 2) := by decide +kernel
theorem d_X11_sign_13 : decode M_X11_sign.2.1 13 = .ok (.if_icmp .ne 8, 3) := by decide +kernel
theorem d_X11_sign_16 : decode M_X11_sign.2.1 16 = .ok (.bipush 11, 2) := by decide +kernel
theorem d_X11_sign_18 : decode M_X11_sign.2.1 18 = .ok (.goto 26, 3) := by decide +kernel
theorem d_X11_sign_21 : decode M_X11_sign.2.1 21 = .ok (.iload_n 2, 1) := by decide +kernel
theorem d_X11_sign_22 : decode M_X11_sign.2.1 22 = .ok (.bipush 33, 2) := by decide +kernel
theorem d_X11_sign_24 : decode M_X11_sign.2.1 24 = .ok (.if_icmp .ne 8, 3) := by decide +kernel
theorem d_X11_sign_27 : decode M_X11_sign.2.1 27 = .ok (.bipush 12, 2) := by decide +kernel
theorem d_X11_sign_29 : decode M_X11_sign.2.1 29 = .ok (.goto 15, 3) := by decide +kernel
theorem d_X11_sign_32 : decode M_X11_sign.2.1 32 = .ok (.iload_n 2, 1) := by decide +kernel
theorem d_X11_sign_33 : decode M_X11_sign.2.1 33 = .ok (.bipush 60, 2) := by decide +kernel
theorem d_X11_sign_35 : decode M_X11_sign.2.1 35 = .ok (.if_icmp .ne 8, 3) := by decide +kernel
theorem d_X11_sign_38 : decode M_X11_sign.2.1 38 = .ok (.bipush 14, 2) := by decide +kernel
theorem d_X11_sign_40 : decode M_X11_sign.2.1 40 = .ok (.goto 4, 3) := by decide +kernel
theorem d_X11_sign_43 : decode M_X11_sign.2.1 43 = .ok (.iconst 0, 1) := by decide +kernel
theorem d_X11_sign_44 : decode M_X11_sign.2.1 44 = .ok (.istore 4, 2) := by decide +kernel
theorem d_X11_sign_46 : decode M_X11_sign.2.1 46 = .ok (.iconst 3, 1) := by decide +kernel
theorem d_X11_sign_47 : decode M_X11_sign.2.1 47 = .ok (.istore 5, 2) := by decide +kernel
theorem d_X11_sign_49 : decode M_X11_sign.2.1 49 = .ok (.iload 4, 2) := by decide +kernel
theorem d_X11_sign_51 : decode M_X11_sign.2.1 51 = .ok (.ifCond .le 10, 3) := by decide +kernel
theorem d_X11_sign_54 : decode M_X11_sign.2.1 54 = .ok (.iload 4, 2) := by decide +kernel
theorem d_X11_sign_56 : decode M_X11_sign.2.1 56 = .ok (.istore 5, 2) := by decide +kernel
theorem d_X11_sign_58 : decode M_X11_sign.2.1 58 = .ok (.goto 128, 3) := by decide +kernel
theorem d_X11_sign_61 : decode M_X11_sign.2.1 61 = .ok (.iload_n 2, 1) := by decide +kernel
theorem d_X11_sign_62 : decode M_X11_sign.2.1 62 = .ok (.bipush 59, 2) := by decide +kernel
theorem d_X11_sign_64 : decode M_X11_sign.2.1 64 = .ok (.if_icmp .ne 9, 3) := by decide +kernel
theorem d_X11_sign_67 : decode M_X11_sign.2.1 67 = .ok (.iconst 4, 1) := by decide +kernel
theorem d_X11_sign_68 : decode M_X11_sign.2.1 68 = .ok (.istore 5, 2) := by decide +kernel
theorem d_X11_sign_70 : decode M_X11_sign.2.1 70 = .ok (.goto 116, 3) := by decide +kernel
theorem d_X11_sign_73 : decode M_X11_sign.2.1 73 = .ok (.iload_n 2, 1) := by decide +kernel
theorem d_X11_sign_74 : decode M_X11_sign.2.1 74 = .ok (.bipush 40, 2) := by decide +kernel
theorem d_X11_sign_76 : decode M_X11_sign.2.1 76 = .ok (.if_icmp .ne 10, 3) := by decide +kernel
theorem d_X11_sign_79 : decode M_X11_sign.2.1 79 = .ok (.bipush 6, 2) := by decide +kernel
theorem d_X11_sign_81 : decode M_X11_sign.2.1 81 = .ok (.istore 5, 2) := by decide +kernel
theorem d_X11_sign_83 : decode M_X11_sign.2.1 83 = .ok (.goto 103, 3) := by decide +kernel
theorem d_X11_sign_86 : decode M_X11_sign.2.1 86 = .ok (.iload_n 2, 1) := by decide +kernel
theorem d_X11_sign_87 : decode M_X11_sign.2.1 87 = .ok (.bipush 41, 2) := by decide +kernel
theorem d_X11_sign_89 : decode M_X11_sign.2.1 89 = .ok (.if_icmp .ne 10, 3) := by decide +kernel
theorem d_X11_sign_92 : decode M_X11_sign.2.1 92 = .ok (.bipush 7, 2) := by decide +kernel
theorem d_X11_sign_94 : decode M_X11_sign.2.1 94 = .ok (.istore 5, 2) := by decide +kernel
theorem d_X11_sign_96 : decode M_X11_sign.2.1 96 = .ok (.goto 90, 3) := by decide +kernel
theorem d_X11_sign_99 : decode M_X11_sign.2.1 99 = .ok (.iload_n 2, 1) := by decide +kernel
theorem d_X11_sign_100 : decode M_X11_sign.2.1 100 = .ok (.bipush 43, 2) := by decide +kernel
theorem d_X11_sign_102 : decode M_X11_sign.2.1 102 = .ok (.if_icmp .ne 10, 3) := by decide +kernel
theorem d_X11_sign_105 : decode M_X11_sign.2.1 105 = .ok (.bipush 8, 2) := by decide +kernel
theorem d_X11_sign_107 : decode M_X11_sign.2.1 107 = .ok (.istore 5, 2) := by decide +kernel
theorem d_X11_sign_109 : decode M_X11_sign.2.1 109 = .ok (.goto 77, 3) := by decide +kernel
theorem d_X11_sign_112 : decode M_X11_sign.2.1 112 = .ok (.iload_n 2, 1) := by decide +kernel
theorem d_X11_sign_113 : decode M_X11_sign.2.1 113 = .ok (.bipush 45, 2) := by decide +kernel
theorem d_X11_sign_115 : decode M_X11_sign.2.1 115 = .ok (.if_icmp .ne 10, 3) := by decide +kernel
theorem d_X11_sign_118 : decode M_X11_sign.2.1 118 = .ok (.bipush 9, 2) := by decide +kernel
theorem d_X11_sign_120 : decode M_X11_sign.2.1 120 = .ok (.istore 5, 2) := by decide +kernel
theorem d_X11_sign_122 : decode M_X11_sign.2.1 122 = .ok (.goto 64, 3) := by decide +kernel
theorem d_X11_sign_125 : decode M_X11_sign.2.1 125 = .ok (.iload_n 2, 1) := by decide +kernel
theorem d_X11_sign_126 : decode M_X11_sign.2.1 126 = .ok (.bipush 42, 2) := by decide +kernel
theorem d_X11_sign_128 : decode M_X11_sign.2.1 128 = .ok (.if_icmp .ne 10, 3) := by decide +kernel
theorem d_X11_sign_131 : decode M_X11_sign.2.1 131 = .ok (.bipush 10, 2) := by decide +kernel
theorem d_X11_sign_133 : decode M_X11_sign.2.1 133 = .ok (.istore 5, 2) := by decide +kernel
theorem d_X11_sign_135 : decode M_X11_sign.2.1 135 = .ok (.goto 51, 3) := by decide +kernel
theorem d_X11_sign_138 : decode M_X11_sign.2.1 138 = .ok (.iload_n 2, 1) := by decide +kernel
theorem d_X11_sign_139 : decode M_X11_sign.2.1 139 = .ok (.bipush 60, 2) := by decide +kernel
theorem d_X11_sign_141 : decode M_X11_sign.2.1 141 = .ok (.if_icmp .ne 10, 3) := by decide +kernel
theorem d_X11_sign_144 : decode M_X11_sign.2.1 144 = .ok (.bipush 13, 2) := by decide +kernel
theorem d_X11_sign_146 : decode M_X11_sign.2.1 146 = .ok (.istore 5, 2) := by decide +kernel
theorem d_X11_sign_148 : decode M_X11_sign.2.1 148 = .ok (.goto 38, 3) := by decide +kernel
theorem d_X11_sign_151 : decode M_X11_sign.2.1 151 = .ok (.iload_n 2, 1) := by decide +kernel
theorem d_X11_sign_152 : decode M_X11_sign.2.1 152 = .ok (.bipush 47, 2) := by decide +kernel
theorem d_X11_sign_154 : decode M_X11_sign.2.1 154 = .ok (.if_icmp .ne 10, 3) := by decide +kernel
theorem d_X11_sign_157 : decode M_X11_sign.2.1 157 = .ok (.bipush 15, 2) := by decide +kernel
theorem d_X11_sign_159 : decode M_X11_sign.2.1 159 = .ok (.istore 5, 2) := by decide +kernel
theorem d_X11_sign_161 : decode M_X11_sign.2.1 161 = .ok (.goto 25, 3) := by decide +kernel
theorem d_X11_sign_164 : decode M_X11_sign.2.1 164 = .ok (.iload_n 2, 1) := by decide +kernel
theorem d_X11_sign_165 : decode M_X11_sign.2.1 165 = .ok (.bipush 58, 2) := by decide +kernel
theorem d_X11_sign_167 : decode M_X11_sign.2.1 167 = .ok (.if_icmp .ne 9, 3) := by decide +kernel
theorem d_X11_sign_170 : decode M_X11_sign.2.1 170 = .ok (.iconst 5, 1) := by decide +kernel
theorem d_X11_sign_171 : decode M_X11_sign.2.1 171 = .ok (.istore 5, 2) := by decide +kernel
theorem d_X11_sign_173 : decode M_X11_sign.2.1 173 = .ok (.goto 13, 3) := by decide +kernel
theorem d_X11_sign_176 : decode M_X11_sign.2.1 176 = .ok (.iload_n 2, 1) := by decide +kernel
theorem d_X11_sign_177 : decode M_X11_sign.2.1 177 = .ok (.bipush 44, 2) := by decide +kernel
theorem d_X11_sign_179 : decode M_X11_sign.2.1 179 = .ok (.if_icmp .ne 7, 3) := by decide +kernel
theorem d_X11_sign_182 : decode M_X11_sign.2.1 182 = .ok (.bipush 16, 2) := by decide +kernel
theorem d_X11_sign_184 : decode M_X11_sign.2.1 184 = .ok (.istore 5, 2) := by decide +kernel
theorem d_X11_sign_186 : decode M_X11_sign.2.1 186 = .ok (.aload_n 0, 1) := by decide +kernel
theorem d_X11_sign_187 : decode M_X11_sign.2.1 187 = .ok (.iload 5, 2) := by decide +kernel
theorem d_X11_sign_189 : decode M_X11_sign.2.1 189 = .ok (.iload_n 1, 1) := by decide +kernel
theorem d_X11_sign_190 : decode M_X11_sign.2.1 190 = .ok (.iconst 0, 1) := by decide +kernel
theorem d_X11_sign_191 : decode M_X11_sign.2.1 191 = .ok (.lconst 0, 1) := by decide +kernel
theorem d_X11_sign_192 : decode M_X11_sign.2.1 192 = .ok (.invokevirtual 200, 3) := by decide +kernel
theorem d_X11_sign_195 : decode M_X11_sign.2.1 195 = .ok (.iload 4, 2) := by decide +kernel
theorem d_X11_sign_197 : decode M_X11_sign.2.1 197 = .ok (.ifCond .le 7, 3) := by decide +kernel
theorem d_X11_sign_200 : decode M_X11_sign.2.1 200 = .ok (.iconst 2, 1) := by decide +kernel
theorem d_X11_sign_201 : decode M_X11_sign.2.1 201 = .ok (.goto 4, 3) := by decide +kernel
theorem d_X11_sign_204 : decode M_X11_sign.2.1 204 = .ok (.iconst 1, 1) := by decide +kernel
theorem d_X11_sign_205 : decode M_X11_sign.2.1 205 = .ok (.ireturn, 1) := by decide +kernel
theorem ce_X11_sign : zw_CeV M_X11_sign 3 := ⟨⟨⟨by decide +kernel, by decide +kernel, by decide +kernel⟩, (zw_mG (List.mem_of_getElem? (i := 1441) (by decide +kernel)) rfl), (zw_mG (List.mem_of_getElem? (i := 108) (by decide +kernel)) rfl), by decide, by decide +kernel⟩, (zw_mG (List.mem_of_getElem? (i := 1440) (by decide +kernel)) rfl), (zw_mG (List.mem_of_getElem? (i := 53) (by decide +kernel)) rfl)⟩
def j_X11_sign_186 (v0 : Nat) (v1 : Int32) (v4 : Int32) (v5 : Int32) (I : zI) (R : zR) (J : zJ) : Option (Int32 × zI × zJ) :=
  zw_g (zw_gc v0 11) ((f_X11_token v0 v5 v1 0 0 I R J).bind fun q17 => (if v4 ≤ 0 then some (1, q17.1, q17.2) else some (2, q17.1, q17.2)))
theorem j_X11_sign_186_ok (X : zw_X) (P : Option Value → aS → Prop) (v0 : Nat) (v1 : Int32) (v4 : Int32) (v5 : Int32) (I : zI) (R : zR) (J : zJ) (o : Int32 × zI × zJ) (hf : j_X11_sign_186 v0 v1 v4 v5 I R J = some o) (hk : P (some (.int o.1)) (o.2.1, R, o.2.2)) : zy_V X M_X11_sign 1 P 186 [.ref v0, .int v1, .null, .null, .int v4, .int v5] [] (I, R, J) := by
  unfold j_X11_sign_186 at hf
  refine zv_aload_n (pc := 186) d_X11_sign_186 rfl ?_
  refine zv_iload (pc := 187) d_X11_sign_187 rfl ?_
  refine zv_iload_n (pc := 189) d_X11_sign_189 rfl ?_
  refine zv_iconst (pc := 190) d_X11_sign_190 zc_i_0 ?_
  refine zv_lconst (pc := 191) d_X11_sign_191 zc_l_0 ?_
  obtain ⟨g16, hf⟩ := zw_gcE hf (by decide)
  obtain ⟨q17, hq17, hf⟩ := zw_bdE hf
  refine zx_callV (pc := 192) (As := [.int v5, .int v1, .int 0, .long 0]) (o := v0) (st := []) (d2 := 0) (M2 := M_X11_token) (P2 := (fun r S => r = none ∧ S = (q17.1, R, q17.2))) d_X11_sign_192 (zw_mG (List.mem_of_getElem? (i := 1425) (by decide +kernel)) rfl) ce_X11_token (zw_RvK g16 rfl rfl) (Nat.le_of_ble_eq_true rfl) rfl (Nat.le_of_ble_eq_true rfl) (by decide) (c_X11_token X v0 v5 v1 0 0 I R J _ hq17 ⟨rfl, rfl⟩) ?_
  rintro _ _ ⟨rfl, rfl⟩
  show zy_V X M_X11_sign 1 P (192 + 3) [.ref v0, .int v1, .null, .null, .int v4, .int v5] [] (q17.1, R, q17.2)
  refine zv_iload (pc := 195) d_X11_sign_195 rfl ?_
  rcases zw_ifE hf with ⟨c18, hf⟩ | ⟨c18, hf⟩
  · refine zv_if_le (pc := 197) (tg := 204) d_X11_sign_197 (by decide) (fun _ => ?_) (fun q => absurd c18 q)
    refine zv_iconst (pc := 204) d_X11_sign_204 zc_i_1 ?_
    cases hf
    exact zx_iret (pc := 205) d_X11_sign_205 rfl hk
  · refine zv_if_le (pc := 197) (tg := 204) d_X11_sign_197 (by decide) (fun q => absurd q c18) (fun _ => ?_)
    refine zv_iconst (pc := 200) d_X11_sign_200 zc_i_2 ?_
    refine zv_goto (pc := 201) (tg := 205) d_X11_sign_201 (by decide) ?_
    cases hf
    exact zx_iret (pc := 205) d_X11_sign_205 rfl hk
def j_X11_sign_44 (v0 : Nat) (v1 : Int32) (v2 : Int32) (s0 : Int32) (I : zI) (R : zR) (J : zJ) : Option (Int32 × zI × zJ) :=
  if s0 ≤ 0 then if ¬ v2 = 59 then if ¬ v2 = 40 then if ¬ v2 = 41 then if ¬ v2 = 43 then if ¬ v2 = 45 then if ¬ v2 = 42 then if ¬ v2 = 60 then if ¬ v2 = 47 then if ¬ v2 = 58 then if ¬ v2 = 44 then j_X11_sign_186 v0 v1 s0 3 I R J else j_X11_sign_186 v0 v1 s0 16 I R J else j_X11_sign_186 v0 v1 s0 5 I R J else j_X11_sign_186 v0 v1 s0 15 I R J else j_X11_sign_186 v0 v1 s0 13 I R J else j_X11_sign_186 v0 v1 s0 10 I R J else j_X11_sign_186 v0 v1 s0 9 I R J else j_X11_sign_186 v0 v1 s0 8 I R J else j_X11_sign_186 v0 v1 s0 7 I R J else j_X11_sign_186 v0 v1 s0 6 I R J else j_X11_sign_186 v0 v1 s0 4 I R J else j_X11_sign_186 v0 v1 s0 s0 I R J
theorem j_X11_sign_44_ok (X : zw_X) (P : Option Value → aS → Prop) (v0 : Nat) (v1 : Int32) (v2 : Int32) (s0 : Int32) (I : zI) (R : zR) (J : zJ) (o : Int32 × zI × zJ) (hf : j_X11_sign_44 v0 v1 v2 s0 I R J = some o) (hk : P (some (.int o.1)) (o.2.1, R, o.2.2)) : zy_V X M_X11_sign 1 P 44 [.ref v0, .int v1, .int v2, .null, .null, .null] [.int s0] (I, R, J) := by
  unfold j_X11_sign_44 at hf
  refine zx_istore (pc := 44) (x2 := s0) (L2 := [.ref v0, .int v1, .int v2, .null, .int s0, .null]) d_X11_sign_44 (by decide) rfl rfl ?_
  refine zv_iconst (pc := 46) d_X11_sign_46 zc_i_3 ?_
  refine zx_istore (pc := 47) (x2 := 3) (L2 := [.ref v0, .int v1, .int v2, .null, .int s0, .int 3]) d_X11_sign_47 (by decide) rfl rfl ?_
  refine zv_iload (pc := 49) d_X11_sign_49 rfl ?_
  rcases zw_ifE hf with ⟨c5, hf⟩ | ⟨c5, hf⟩
  · refine zv_if_le (pc := 51) (tg := 61) d_X11_sign_51 (by decide) (fun _ => ?_) (fun q => absurd c5 q)
    refine zv_iload_n (pc := 61) d_X11_sign_61 rfl ?_
    refine zv_bipush (pc := 62) d_X11_sign_62 zc_b_59 ?_
    rcases zw_ifE hf with ⟨c6, hf⟩ | ⟨c6, hf⟩
    · refine zv_icmp_ne (pc := 64) (tg := 73) d_X11_sign_64 (by decide) (fun _ => ?_) (fun q => absurd q c6)
      refine zv_iload_n (pc := 73) d_X11_sign_73 rfl ?_
      refine zv_bipush (pc := 74) d_X11_sign_74 zc_b_40 ?_
      rcases zw_ifE hf with ⟨c7, hf⟩ | ⟨c7, hf⟩
      · refine zv_icmp_ne (pc := 76) (tg := 86) d_X11_sign_76 (by decide) (fun _ => ?_) (fun q => absurd q c7)
        refine zv_iload_n (pc := 86) d_X11_sign_86 rfl ?_
        refine zv_bipush (pc := 87) d_X11_sign_87 zc_b_41 ?_
        rcases zw_ifE hf with ⟨c8, hf⟩ | ⟨c8, hf⟩
        · refine zv_icmp_ne (pc := 89) (tg := 99) d_X11_sign_89 (by decide) (fun _ => ?_) (fun q => absurd q c8)
          refine zv_iload_n (pc := 99) d_X11_sign_99 rfl ?_
          refine zv_bipush (pc := 100) d_X11_sign_100 zc_b_43 ?_
          rcases zw_ifE hf with ⟨c9, hf⟩ | ⟨c9, hf⟩
          · refine zv_icmp_ne (pc := 102) (tg := 112) d_X11_sign_102 (by decide) (fun _ => ?_) (fun q => absurd q c9)
            refine zv_iload_n (pc := 112) d_X11_sign_112 rfl ?_
            refine zv_bipush (pc := 113) d_X11_sign_113 zc_b_45 ?_
            rcases zw_ifE hf with ⟨c10, hf⟩ | ⟨c10, hf⟩
            · refine zv_icmp_ne (pc := 115) (tg := 125) d_X11_sign_115 (by decide) (fun _ => ?_) (fun q => absurd q c10)
              refine zv_iload_n (pc := 125) d_X11_sign_125 rfl ?_
              refine zv_bipush (pc := 126) d_X11_sign_126 zc_b_42 ?_
              rcases zw_ifE hf with ⟨c11, hf⟩ | ⟨c11, hf⟩
              · refine zv_icmp_ne (pc := 128) (tg := 138) d_X11_sign_128 (by decide) (fun _ => ?_) (fun q => absurd q c11)
                refine zv_iload_n (pc := 138) d_X11_sign_138 rfl ?_
                refine zv_bipush (pc := 139) d_X11_sign_139 zc_b_60 ?_
                rcases zw_ifE hf with ⟨c12, hf⟩ | ⟨c12, hf⟩
                · refine zv_icmp_ne (pc := 141) (tg := 151) d_X11_sign_141 (by decide) (fun _ => ?_) (fun q => absurd q c12)
                  refine zv_iload_n (pc := 151) d_X11_sign_151 rfl ?_
                  refine zv_bipush (pc := 152) d_X11_sign_152 zc_b_47 ?_
                  rcases zw_ifE hf with ⟨c13, hf⟩ | ⟨c13, hf⟩
                  · refine zv_icmp_ne (pc := 154) (tg := 164) d_X11_sign_154 (by decide) (fun _ => ?_) (fun q => absurd q c13)
                    refine zv_iload_n (pc := 164) d_X11_sign_164 rfl ?_
                    refine zv_bipush (pc := 165) d_X11_sign_165 zc_b_58 ?_
                    rcases zw_ifE hf with ⟨c14, hf⟩ | ⟨c14, hf⟩
                    · refine zv_icmp_ne (pc := 167) (tg := 176) d_X11_sign_167 (by decide) (fun _ => ?_) (fun q => absurd q c14)
                      refine zv_iload_n (pc := 176) d_X11_sign_176 rfl ?_
                      refine zv_bipush (pc := 177) d_X11_sign_177 zc_b_44 ?_
                      rcases zw_ifE hf with ⟨c15, hf⟩ | ⟨c15, hf⟩
                      · refine zv_icmp_ne (pc := 179) (tg := 186) d_X11_sign_179 (by decide) (fun _ => ?_) (fun q => absurd q c15)
                        exact zx_weak (zw_leS (zw_leS (zw_leN (zw_leN (zw_leS (zw_leS zw_leZ)))))) (j_X11_sign_186_ok X P v0 v1 s0 3 I R J _ hf hk)
                      · refine zv_icmp_ne (pc := 179) (tg := 186) d_X11_sign_179 (by decide) (fun q => absurd q c15) (fun _ => ?_)
                        refine zv_bipush (pc := 182) d_X11_sign_182 zc_b_16 ?_
                        refine zx_istore (pc := 184) (x2 := 16) (L2 := [.ref v0, .int v1, .int v2, .null, .int s0, .int 16]) d_X11_sign_184 (by decide) rfl rfl ?_
                        exact zx_weak (zw_leS (zw_leS (zw_leN (zw_leN (zw_leS (zw_leS zw_leZ)))))) (j_X11_sign_186_ok X P v0 v1 s0 16 I R J _ hf hk)
                    · refine zv_icmp_ne (pc := 167) (tg := 176) d_X11_sign_167 (by decide) (fun q => absurd q c14) (fun _ => ?_)
                      refine zv_iconst (pc := 170) d_X11_sign_170 zc_i_5 ?_
                      refine zx_istore (pc := 171) (x2 := 5) (L2 := [.ref v0, .int v1, .int v2, .null, .int s0, .int 5]) d_X11_sign_171 (by decide) rfl rfl ?_
                      refine zv_goto (pc := 173) (tg := 186) d_X11_sign_173 (by decide) ?_
                      exact zx_weak (zw_leS (zw_leS (zw_leN (zw_leN (zw_leS (zw_leS zw_leZ)))))) (j_X11_sign_186_ok X P v0 v1 s0 5 I R J _ hf hk)
                  · refine zv_icmp_ne (pc := 154) (tg := 164) d_X11_sign_154 (by decide) (fun q => absurd q c13) (fun _ => ?_)
                    refine zv_bipush (pc := 157) d_X11_sign_157 zc_b_15 ?_
                    refine zx_istore (pc := 159) (x2 := 15) (L2 := [.ref v0, .int v1, .int v2, .null, .int s0, .int 15]) d_X11_sign_159 (by decide) rfl rfl ?_
                    refine zv_goto (pc := 161) (tg := 186) d_X11_sign_161 (by decide) ?_
                    exact zx_weak (zw_leS (zw_leS (zw_leN (zw_leN (zw_leS (zw_leS zw_leZ)))))) (j_X11_sign_186_ok X P v0 v1 s0 15 I R J _ hf hk)
                · refine zv_icmp_ne (pc := 141) (tg := 151) d_X11_sign_141 (by decide) (fun q => absurd q c12) (fun _ => ?_)
                  refine zv_bipush (pc := 144) d_X11_sign_144 zc_b_13 ?_
                  refine zx_istore (pc := 146) (x2 := 13) (L2 := [.ref v0, .int v1, .int v2, .null, .int s0, .int 13]) d_X11_sign_146 (by decide) rfl rfl ?_
                  refine zv_goto (pc := 148) (tg := 186) d_X11_sign_148 (by decide) ?_
                  exact zx_weak (zw_leS (zw_leS (zw_leN (zw_leN (zw_leS (zw_leS zw_leZ)))))) (j_X11_sign_186_ok X P v0 v1 s0 13 I R J _ hf hk)
              · refine zv_icmp_ne (pc := 128) (tg := 138) d_X11_sign_128 (by decide) (fun q => absurd q c11) (fun _ => ?_)
                refine zv_bipush (pc := 131) d_X11_sign_131 zc_b_10 ?_
                refine zx_istore (pc := 133) (x2 := 10) (L2 := [.ref v0, .int v1, .int v2, .null, .int s0, .int 10]) d_X11_sign_133 (by decide) rfl rfl ?_
                refine zv_goto (pc := 135) (tg := 186) d_X11_sign_135 (by decide) ?_
                exact zx_weak (zw_leS (zw_leS (zw_leN (zw_leN (zw_leS (zw_leS zw_leZ)))))) (j_X11_sign_186_ok X P v0 v1 s0 10 I R J _ hf hk)
            · refine zv_icmp_ne (pc := 115) (tg := 125) d_X11_sign_115 (by decide) (fun q => absurd q c10) (fun _ => ?_)
              refine zv_bipush (pc := 118) d_X11_sign_118 zc_b_9 ?_
              refine zx_istore (pc := 120) (x2 := 9) (L2 := [.ref v0, .int v1, .int v2, .null, .int s0, .int 9]) d_X11_sign_120 (by decide) rfl rfl ?_
              refine zv_goto (pc := 122) (tg := 186) d_X11_sign_122 (by decide) ?_
              exact zx_weak (zw_leS (zw_leS (zw_leN (zw_leN (zw_leS (zw_leS zw_leZ)))))) (j_X11_sign_186_ok X P v0 v1 s0 9 I R J _ hf hk)
          · refine zv_icmp_ne (pc := 102) (tg := 112) d_X11_sign_102 (by decide) (fun q => absurd q c9) (fun _ => ?_)
            refine zv_bipush (pc := 105) d_X11_sign_105 zc_b_8 ?_
            refine zx_istore (pc := 107) (x2 := 8) (L2 := [.ref v0, .int v1, .int v2, .null, .int s0, .int 8]) d_X11_sign_107 (by decide) rfl rfl ?_
            refine zv_goto (pc := 109) (tg := 186) d_X11_sign_109 (by decide) ?_
            exact zx_weak (zw_leS (zw_leS (zw_leN (zw_leN (zw_leS (zw_leS zw_leZ)))))) (j_X11_sign_186_ok X P v0 v1 s0 8 I R J _ hf hk)
        · refine zv_icmp_ne (pc := 89) (tg := 99) d_X11_sign_89 (by decide) (fun q => absurd q c8) (fun _ => ?_)
          refine zv_bipush (pc := 92) d_X11_sign_92 zc_b_7 ?_
          refine zx_istore (pc := 94) (x2 := 7) (L2 := [.ref v0, .int v1, .int v2, .null, .int s0, .int 7]) d_X11_sign_94 (by decide) rfl rfl ?_
          refine zv_goto (pc := 96) (tg := 186) d_X11_sign_96 (by decide) ?_
          exact zx_weak (zw_leS (zw_leS (zw_leN (zw_leN (zw_leS (zw_leS zw_leZ)))))) (j_X11_sign_186_ok X P v0 v1 s0 7 I R J _ hf hk)
      · refine zv_icmp_ne (pc := 76) (tg := 86) d_X11_sign_76 (by decide) (fun q => absurd q c7) (fun _ => ?_)
        refine zv_bipush (pc := 79) d_X11_sign_79 zc_b_6 ?_
        refine zx_istore (pc := 81) (x2 := 6) (L2 := [.ref v0, .int v1, .int v2, .null, .int s0, .int 6]) d_X11_sign_81 (by decide) rfl rfl ?_
        refine zv_goto (pc := 83) (tg := 186) d_X11_sign_83 (by decide) ?_
        exact zx_weak (zw_leS (zw_leS (zw_leN (zw_leN (zw_leS (zw_leS zw_leZ)))))) (j_X11_sign_186_ok X P v0 v1 s0 6 I R J _ hf hk)
    · refine zv_icmp_ne (pc := 64) (tg := 73) d_X11_sign_64 (by decide) (fun q => absurd q c6) (fun _ => ?_)
      refine zv_iconst (pc := 67) d_X11_sign_67 zc_i_4 ?_
      refine zx_istore (pc := 68) (x2 := 4) (L2 := [.ref v0, .int v1, .int v2, .null, .int s0, .int 4]) d_X11_sign_68 (by decide) rfl rfl ?_
      refine zv_goto (pc := 70) (tg := 186) d_X11_sign_70 (by decide) ?_
      exact zx_weak (zw_leS (zw_leS (zw_leN (zw_leN (zw_leS (zw_leS zw_leZ)))))) (j_X11_sign_186_ok X P v0 v1 s0 4 I R J _ hf hk)
  · refine zv_if_le (pc := 51) (tg := 61) d_X11_sign_51 (by decide) (fun q => absurd q c5) (fun _ => ?_)
    refine zv_iload (pc := 54) d_X11_sign_54 rfl ?_
    refine zx_istore (pc := 56) (x2 := s0) (L2 := [.ref v0, .int v1, .int v2, .null, .int s0, .int s0]) d_X11_sign_56 (by decide) rfl rfl ?_
    refine zv_goto (pc := 58) (tg := 186) d_X11_sign_58 (by decide) ?_
    exact zx_weak (zw_leS (zw_leS (zw_leN (zw_leN (zw_leS (zw_leS zw_leZ)))))) (j_X11_sign_186_ok X P v0 v1 s0 s0 I R J _ hf hk)
def f_X11_sign (v0 : Nat) (v1 : Int32) (v2 : Int32) (v3 : Int32) (I : zI) (R : zR) (J : zJ) : Option (Int32 × zI × zJ) :=
  if v3 = 61 then if ¬ v2 = 61 then if ¬ v2 = 33 then if ¬ v2 = 60 then j_X11_sign_44 v0 v1 v2 0 I R J else j_X11_sign_44 v0 v1 v2 14 I R J else j_X11_sign_44 v0 v1 v2 12 I R J else j_X11_sign_44 v0 v1 v2 11 I R J else j_X11_sign_44 v0 v1 v2 0 I R J
theorem c_X11_sign (X : zw_X) (v0 : Nat) (v1 : Int32) (v2 : Int32) (v3 : Int32) (I : zI) (R : zR) (J : zJ) {P : Option Value → aS → Prop} (o : Int32 × zI × zJ) (hf : f_X11_sign v0 v1 v2 v3 I R J = some o) (hk : P (some (.int o.1)) (o.2.1, R, o.2.2)) : zw_C X M_X11_sign 1 0 0 199 [.ref v0, .int v1, .int v2, .int v3] (I, R, J) P := by
  show zy_V X M_X11_sign 1 P 0 [.ref v0, .int v1, .int v2, .int v3, .null, .null] [] (I, R, J)
  unfold f_X11_sign at hf
  refine zv_iload_n (pc := 0) d_X11_sign_0 rfl ?_
  refine zv_bipush (pc := 1) d_X11_sign_1 zc_b_61 ?_
  rcases zw_ifE hf with ⟨c1, hf⟩ | ⟨c1, hf⟩
  · refine zv_icmp_eq (pc := 3) (tg := 10) d_X11_sign_3 (by decide) (fun _ => ?_) (fun q => absurd c1 q)
    refine zv_iload_n (pc := 10) d_X11_sign_10 rfl ?_
    refine zv_bipush (pc := 11) d_X11_sign_11 zc_b_61 ?_
    rcases zw_ifE hf with ⟨c2, hf⟩ | ⟨c2, hf⟩
    · refine zv_icmp_ne (pc := 13) (tg := 21) d_X11_sign_13 (by decide) (fun _ => ?_) (fun q => absurd q c2)
      refine zv_iload_n (pc := 21) d_X11_sign_21 rfl ?_
      refine zv_bipush (pc := 22) d_X11_sign_22 zc_b_33 ?_
      rcases zw_ifE hf with ⟨c3, hf⟩ | ⟨c3, hf⟩
      · refine zv_icmp_ne (pc := 24) (tg := 32) d_X11_sign_24 (by decide) (fun _ => ?_) (fun q => absurd q c3)
        refine zv_iload_n (pc := 32) d_X11_sign_32 rfl ?_
        refine zv_bipush (pc := 33) d_X11_sign_33 zc_b_60 ?_
        rcases zw_ifE hf with ⟨c4, hf⟩ | ⟨c4, hf⟩
        · refine zv_icmp_ne (pc := 35) (tg := 43) d_X11_sign_35 (by decide) (fun _ => ?_) (fun q => absurd q c4)
          refine zv_iconst (pc := 43) d_X11_sign_43 zc_i_0 ?_
          exact zx_weak (zw_leS (zw_leS (zw_leS (zw_leN (zw_leN (zw_leN zw_leZ)))))) (j_X11_sign_44_ok X P v0 v1 v2 0 I R J _ hf hk)
        · refine zv_icmp_ne (pc := 35) (tg := 43) d_X11_sign_35 (by decide) (fun q => absurd q c4) (fun _ => ?_)
          refine zv_bipush (pc := 38) d_X11_sign_38 zc_b_14 ?_
          refine zv_goto (pc := 40) (tg := 44) d_X11_sign_40 (by decide) ?_
          exact zx_weak (zw_leS (zw_leS (zw_leS (zw_leN (zw_leN (zw_leN zw_leZ)))))) (j_X11_sign_44_ok X P v0 v1 v2 14 I R J _ hf hk)
      · refine zv_icmp_ne (pc := 24) (tg := 32) d_X11_sign_24 (by decide) (fun q => absurd q c3) (fun _ => ?_)
        refine zv_bipush (pc := 27) d_X11_sign_27 zc_b_12 ?_
        refine zv_goto (pc := 29) (tg := 44) d_X11_sign_29 (by decide) ?_
        exact zx_weak (zw_leS (zw_leS (zw_leS (zw_leN (zw_leN (zw_leN zw_leZ)))))) (j_X11_sign_44_ok X P v0 v1 v2 12 I R J _ hf hk)
    · refine zv_icmp_ne (pc := 13) (tg := 21) d_X11_sign_13 (by decide) (fun q => absurd q c2) (fun _ => ?_)
      refine zv_bipush (pc := 16) d_X11_sign_16 zc_b_11 ?_
      refine zv_goto (pc := 18) (tg := 44) d_X11_sign_18 (by decide) ?_
      exact zx_weak (zw_leS (zw_leS (zw_leS (zw_leN (zw_leN (zw_leN zw_leZ)))))) (j_X11_sign_44_ok X P v0 v1 v2 11 I R J _ hf hk)
  · refine zv_icmp_eq (pc := 3) (tg := 10) d_X11_sign_3 (by decide) (fun q => absurd q c1) (fun _ => ?_)
    refine zv_iconst (pc := 6) d_X11_sign_6 zc_i_0 ?_
    refine zv_goto (pc := 7) (tg := 44) d_X11_sign_7 (by decide) ?_
    exact zx_weak (zw_leS (zw_leS (zw_leS (zw_leN (zw_leN (zw_leN zw_leZ)))))) (j_X11_sign_44_ok X P v0 v1 v2 0 I R J _ hf hk)
abbrev M_X11_spark : zw_M := (⟨"CutStonesModel", "spark", "(I)I"⟩, prog_13_method_59_code, 2, (Option.some Jvm.ClassFile.FieldType.int))
theorem d_X11_spark_0 : decode M_X11_spark.2.1 0 = .ok (.aload_n 0, 1) := by decide +kernel
theorem d_X11_spark_1 : decode M_X11_spark.2.1 1 = .ok (.getfield 263, 3) := by decide +kernel
theorem d_X11_spark_4 : decode M_X11_spark.2.1 4 = .ok (.ifCond .eq 22, 3) := by decide +kernel
theorem d_X11_spark_7 : decode M_X11_spark.2.1 7 = .ok (.iload_n 1, 1) := by decide +kernel
theorem d_X11_spark_8 : decode M_X11_spark.2.1 8 = .ok (.iconst 0, 1) := by decide +kernel
theorem d_X11_spark_9 : decode M_X11_spark.2.1 9 = .ok (.bipush 6, 2) := by decide +kernel
theorem d_X11_spark_11 : decode M_X11_spark.2.1 11 = .ok (.invokestatic 373, 3) := by decide +kernel
theorem d_X11_spark_14 : decode M_X11_spark.2.1 14 = .ok (.ifCond .eq 12, 3) := by decide +kernel
theorem d_X11_spark_17 : decode M_X11_spark.2.1 17 = .ok (.aload_n 0, 1) := by decide +kernel
theorem d_X11_spark_18 : decode M_X11_spark.2.1 18 = .ok (.getfield 137, 3) := by decide +kernel
theorem d_X11_spark_21 : decode M_X11_spark.2.1 21 = .ok (.iload_n 1, 1) := by decide +kernel
theorem d_X11_spark_22 : decode M_X11_spark.2.1 22 = .ok (.iaload, 1) := by decide +kernel
theorem d_X11_spark_23 : decode M_X11_spark.2.1 23 = .ok (.goto 4, 3) := by decide +kernel
theorem d_X11_spark_26 : decode M_X11_spark.2.1 26 = .ok (.iconst (-1), 1) := by decide +kernel
theorem d_X11_spark_27 : decode M_X11_spark.2.1 27 = .ok (.ireturn, 1) := by decide +kernel
theorem ce_X11_spark : zw_CeV M_X11_spark 1 := ⟨⟨⟨by decide +kernel, by decide +kernel, by decide +kernel⟩, (zw_mG (List.mem_of_getElem? (i := 1598) (by decide +kernel)) rfl), (zw_mG (List.mem_of_getElem? (i := 108) (by decide +kernel)) rfl), by decide, by decide +kernel⟩, (zw_mG (List.mem_of_getElem? (i := 1596) (by decide +kernel)) rfl), (zw_mG (List.mem_of_getElem? (i := 1597) (by decide +kernel)) rfl)⟩
def f_X11_spark (v0 : Nat) (v1 : Int32) (I : zI) (R : zR) : Option (Int32) :=
  zw_g (zw_gc v0 11) (if (I v0 61) = 0 then some (-1) else (f_X11_in v1 0 6).bind fun q3 => (if q3 = 0 then some (-1) else zw_g (zw_gc (R v0 64) 13) (zw_g (zw_in v1 (zw_SH (R v0 64)).2) (some (I (R v0 64) (Int32.toNatClampNeg v1))))))
theorem c_X11_spark (X : zw_X) (v0 : Nat) (v1 : Int32) (I : zI) (R : zR) (J : zJ) {P : Option Value → aS → Prop} (o : Int32) (hf : f_X11_spark v0 v1 I R = some o) (hk : P (some (.int o)) (I, R, J)) : zw_C X M_X11_spark 1 0 0 199 [.ref v0, .int v1] (I, R, J) P := by
  show zy_V X M_X11_spark 1 P 0 [.ref v0, .int v1] [] (I, R, J)
  unfold f_X11_spark at hf
  refine zv_aload_n (pc := 0) d_X11_spark_0 rfl ?_
  obtain ⟨g1, hf⟩ := zw_gcE hf (by decide)
  refine zx_getI (pc := 1) d_X11_spark_1 lk_CutStonesModel_263 (by decide) g1 ?_
  rcases zw_ifE hf with ⟨c2, hf⟩ | ⟨c2, hf⟩
  · refine zv_if_eq (pc := 4) (tg := 26) d_X11_spark_4 (by decide) (fun _ => ?_) (fun q => absurd c2 q)
    refine zv_iconst (pc := 26) d_X11_spark_26 zc_i_m1 ?_
    cases hf
    exact zx_iret (pc := 27) d_X11_spark_27 rfl hk
  · refine zv_if_eq (pc := 4) (tg := 26) d_X11_spark_4 (by decide) (fun q => absurd q c2) (fun _ => ?_)
    refine zv_iload_n (pc := 7) d_X11_spark_7 rfl ?_
    refine zv_iconst (pc := 8) d_X11_spark_8 zc_i_0 ?_
    refine zv_bipush (pc := 9) d_X11_spark_9 zc_b_6 ?_
    obtain ⟨q3, hq3, hf⟩ := zw_bdE hf
    refine zx_callS (pc := 11) (As := [.int v1, .int 0, .int 6]) (st := []) (d2 := 0) (M2 := M_X11_in) (P2 := (fun r S => r = (some (.int q3)) ∧ S = (I, R, J))) d_X11_spark_11 (zw_mG (List.mem_of_getElem? (i := 1522) (by decide +kernel)) rfl) ce_X11_in (Nat.le_of_ble_eq_true rfl) rfl (Nat.le_of_ble_eq_true rfl) (by decide) (c_X11_in X v1 0 6 I R J _ hq3 ⟨rfl, rfl⟩) ?_
    rintro _ _ ⟨rfl, rfl⟩
    show zy_V X M_X11_spark 1 P (11 + 3) [.ref v0, .int v1] [.int q3] (I, R, J)
    rcases zw_ifE hf with ⟨c4, hf⟩ | ⟨c4, hf⟩
    · refine zv_if_eq (pc := 14) (tg := 26) d_X11_spark_14 (by decide) (fun _ => ?_) (fun q => absurd c4 q)
      refine zv_iconst (pc := 26) d_X11_spark_26 zc_i_m1 ?_
      cases hf
      exact zx_iret (pc := 27) d_X11_spark_27 rfl hk
    · refine zv_if_eq (pc := 14) (tg := 26) d_X11_spark_14 (by decide) (fun q => absurd q c4) (fun _ => ?_)
      refine zv_aload_n (pc := 17) d_X11_spark_17 rfl ?_
      obtain ⟨g5, hf⟩ := zw_gcE hf (by decide)
      refine zx_getR (pc := 18) d_X11_spark_18 lk_CutStonesModel_137 (by decide) g1 g5 ?_
      refine zv_iload_n (pc := 21) d_X11_spark_21 rfl ?_
      obtain ⟨i6, hf⟩ := zw_inE hf
      refine zx_iald (pc := 22) d_X11_spark_22 g5 i6 ?_
      refine zv_goto (pc := 23) (tg := 27) d_X11_spark_23 (by decide) ?_
      cases hf
      exact zx_iret (pc := 27) d_X11_spark_27 rfl hk
abbrev M_X11_step : zw_M := (⟨"CutStonesModel", "step", "(I)I"⟩, prog_13_method_58_code, 2, (Option.some Jvm.ClassFile.FieldType.int))
theorem d_X11_step_0 : decode M_X11_step.2.1 0 = .ok (.aload_n 0, 1) := by decide +kernel
theorem d_X11_step_1 : decode M_X11_step.2.1 1 = .ok (.getfield 263, 3) := by decide +kernel
theorem d_X11_step_4 : decode M_X11_step.2.1 4 = .ok (.ifCond .eq 26, 3) := by decide +kernel
theorem d_X11_step_7 : decode M_X11_step.2.1 7 = .ok (.iload_n 1, 1) := by decide +kernel
theorem d_X11_step_8 : decode M_X11_step.2.1 8 = .ok (.iconst 0, 1) := by decide +kernel
theorem d_X11_step_9 : decode M_X11_step.2.1 9 = .ok (.aload_n 0, 1) := by decide +kernel
theorem d_X11_step_10 : decode M_X11_step.2.1 10 = .ok (.getfield 407, 3) := by decide +kernel
theorem d_X11_step_13 : decode M_X11_step.2.1 13 = .ok (.iconst 1, 1) := by decide +kernel
theorem d_X11_step_14 : decode M_X11_step.2.1 14 = .ok (.isub, 1) := by decide +kernel
theorem d_X11_step_15 : decode M_X11_step.2.1 15 = .ok (.invokestatic 373, 3) := by decide +kernel
theorem d_X11_step_18 : decode M_X11_step.2.1 18 = .ok (.ifCond .eq 12, 3) := by decide +kernel
theorem d_X11_step_21 : decode M_X11_step.2.1 21 = .ok (.aload_n 0, 1) := by decide +kernel
theorem d_X11_step_22 : decode M_X11_step.2.1 22 = .ok (.getfield 134, 3) := by decide +kernel
theorem d_X11_step_25 : decode M_X11_step.2.1 25 = .ok (.iload_n 1, 1) := by decide +kernel
theorem d_X11_step_26 : decode M_X11_step.2.1 26 = .ok (.iaload, 1) := by decide +kernel
theorem d_X11_step_27 : decode M_X11_step.2.1 27 = .ok (.goto 4, 3) := by decide +kernel
theorem d_X11_step_30 : decode M_X11_step.2.1 30 = .ok (.iconst (-1), 1) := by decide +kernel
theorem d_X11_step_31 : decode M_X11_step.2.1 31 = .ok (.ireturn, 1) := by decide +kernel
theorem ce_X11_step : zw_CeV M_X11_step 1 := ⟨⟨⟨by decide +kernel, by decide +kernel, by decide +kernel⟩, (zw_mG (List.mem_of_getElem? (i := 1594) (by decide +kernel)) rfl), (zw_mG (List.mem_of_getElem? (i := 108) (by decide +kernel)) rfl), by decide, by decide +kernel⟩, (zw_mG (List.mem_of_getElem? (i := 1592) (by decide +kernel)) rfl), (zw_mG (List.mem_of_getElem? (i := 1593) (by decide +kernel)) rfl)⟩
def f_X11_step (v0 : Nat) (v1 : Int32) (I : zI) (R : zR) : Option (Int32) :=
  zw_g (zw_gc v0 11) (if (I v0 61) = 0 then some (-1) else (f_X11_in v1 0 ((I v0 62) - 1)).bind fun q3 => (if q3 = 0 then some (-1) else zw_g (zw_gc (R v0 63) 13) (zw_g (zw_in v1 (zw_SH (R v0 63)).2) (some (I (R v0 63) (Int32.toNatClampNeg v1))))))
theorem c_X11_step (X : zw_X) (v0 : Nat) (v1 : Int32) (I : zI) (R : zR) (J : zJ) {P : Option Value → aS → Prop} (o : Int32) (hf : f_X11_step v0 v1 I R = some o) (hk : P (some (.int o)) (I, R, J)) : zw_C X M_X11_step 1 0 0 199 [.ref v0, .int v1] (I, R, J) P := by
  show zy_V X M_X11_step 1 P 0 [.ref v0, .int v1] [] (I, R, J)
  unfold f_X11_step at hf
  refine zv_aload_n (pc := 0) d_X11_step_0 rfl ?_
  obtain ⟨g1, hf⟩ := zw_gcE hf (by decide)
  refine zx_getI (pc := 1) d_X11_step_1 lk_CutStonesModel_263 (by decide) g1 ?_
  rcases zw_ifE hf with ⟨c2, hf⟩ | ⟨c2, hf⟩
  · refine zv_if_eq (pc := 4) (tg := 30) d_X11_step_4 (by decide) (fun _ => ?_) (fun q => absurd c2 q)
    refine zv_iconst (pc := 30) d_X11_step_30 zc_i_m1 ?_
    cases hf
    exact zx_iret (pc := 31) d_X11_step_31 rfl hk
  · refine zv_if_eq (pc := 4) (tg := 30) d_X11_step_4 (by decide) (fun q => absurd q c2) (fun _ => ?_)
    refine zv_iload_n (pc := 7) d_X11_step_7 rfl ?_
    refine zv_iconst (pc := 8) d_X11_step_8 zc_i_0 ?_
    refine zv_aload_n (pc := 9) d_X11_step_9 rfl ?_
    refine zx_getI (pc := 10) d_X11_step_10 lk_CutStonesModel_407 (by decide) g1 ?_
    refine zv_iconst (pc := 13) d_X11_step_13 zc_i_1 ?_
    refine zv_isub (pc := 14) d_X11_step_14 ?_
    obtain ⟨q3, hq3, hf⟩ := zw_bdE hf
    refine zx_callS (pc := 15) (As := [.int v1, .int 0, .int ((I v0 62) - 1)]) (st := []) (d2 := 0) (M2 := M_X11_in) (P2 := (fun r S => r = (some (.int q3)) ∧ S = (I, R, J))) d_X11_step_15 (zw_mG (List.mem_of_getElem? (i := 1522) (by decide +kernel)) rfl) ce_X11_in (Nat.le_of_ble_eq_true rfl) rfl (Nat.le_of_ble_eq_true rfl) (by decide) (c_X11_in X v1 0 ((I v0 62) - 1) I R J _ hq3 ⟨rfl, rfl⟩) ?_
    rintro _ _ ⟨rfl, rfl⟩
    show zy_V X M_X11_step 1 P (15 + 3) [.ref v0, .int v1] [.int q3] (I, R, J)
    rcases zw_ifE hf with ⟨c4, hf⟩ | ⟨c4, hf⟩
    · refine zv_if_eq (pc := 18) (tg := 30) d_X11_step_18 (by decide) (fun _ => ?_) (fun q => absurd c4 q)
      refine zv_iconst (pc := 30) d_X11_step_30 zc_i_m1 ?_
      cases hf
      exact zx_iret (pc := 31) d_X11_step_31 rfl hk
    · refine zv_if_eq (pc := 18) (tg := 30) d_X11_step_18 (by decide) (fun q => absurd q c4) (fun _ => ?_)
      refine zv_aload_n (pc := 21) d_X11_step_21 rfl ?_
      obtain ⟨g5, hf⟩ := zw_gcE hf (by decide)
      refine zx_getR (pc := 22) d_X11_step_22 lk_CutStonesModel_134 (by decide) g1 g5 ?_
      refine zv_iload_n (pc := 25) d_X11_step_25 rfl ?_
      obtain ⟨i6, hf⟩ := zw_inE hf
      refine zx_iald (pc := 26) d_X11_step_26 g5 i6 ?_
      refine zv_goto (pc := 27) (tg := 31) d_X11_step_27 (by decide) ?_
      cases hf
      exact zx_iret (pc := 31) d_X11_step_31 rfl hk
abbrev M_X11_stuffRow : zw_M := (⟨"CutStonesModel", "stuffRow", "(I)I"⟩, prog_13_method_49_code, 2, (Option.some Jvm.ClassFile.FieldType.int))
theorem d_X11_stuffRow_0 : decode M_X11_stuffRow.2.1 0 = .ok (.iload_n 1, 1) := by decide +kernel
theorem d_X11_stuffRow_1 : decode M_X11_stuffRow.2.1 1 = .ok (.iconst 0, 1) := by decide +kernel
theorem d_X11_stuffRow_2 : decode M_X11_stuffRow.2.1 2 = .ok (.aload_n 0, 1) := by decide +kernel
theorem d_X11_stuffRow_3 : decode M_X11_stuffRow.2.1 3 = .ok (.getfield 46, 3) := by decide +kernel
theorem d_X11_stuffRow_6 : decode M_X11_stuffRow.2.1 6 = .ok (.aload_n 0, 1) := by decide +kernel
theorem d_X11_stuffRow_7 : decode M_X11_stuffRow.2.1 7 = .ok (.getfield 248, 3) := by decide +kernel
theorem d_X11_stuffRow_10 : decode M_X11_stuffRow.2.1 10 = .ok (.iaload, 1) := by decide +kernel
theorem d_X11_stuffRow_11 : decode M_X11_stuffRow.2.1 11 = .ok (.iconst 1, 1) := by decide +kernel
theorem d_X11_stuffRow_12 : decode M_X11_stuffRow.2.1 12 = .ok (.isub, 1) := by decide +kernel
theorem d_X11_stuffRow_13 : decode M_X11_stuffRow.2.1 13 = .ok (.invokestatic 373, 3) := by decide +kernel
theorem d_X11_stuffRow_16 : decode M_X11_stuffRow.2.1 16 = .ok (.ifCond .eq 14, 3) := by decide +kernel
theorem d_X11_stuffRow_19 : decode M_X11_stuffRow.2.1 19 = .ok (.iconst 4, 1) := by decide +kernel
theorem d_X11_stuffRow_20 : decode M_X11_stuffRow.2.1 20 = .ok (.aload_n 0, 1) := by decide +kernel
theorem d_X11_stuffRow_21 : decode M_X11_stuffRow.2.1 21 = .ok (.getfield 248, 3) := by decide +kernel
theorem d_X11_stuffRow_24 : decode M_X11_stuffRow.2.1 24 = .ok (.imul, 1) := by decide +kernel
theorem d_X11_stuffRow_25 : decode M_X11_stuffRow.2.1 25 = .ok (.iload_n 1, 1) := by decide +kernel
theorem d_X11_stuffRow_26 : decode M_X11_stuffRow.2.1 26 = .ok (.iadd, 1) := by decide +kernel
theorem d_X11_stuffRow_27 : decode M_X11_stuffRow.2.1 27 = .ok (.goto 4, 3) := by decide +kernel
theorem d_X11_stuffRow_30 : decode M_X11_stuffRow.2.1 30 = .ok (.iconst (-1), 1) := by decide +kernel
theorem d_X11_stuffRow_31 : decode M_X11_stuffRow.2.1 31 = .ok (.ireturn, 1) := by decide +kernel
theorem ce_X11_stuffRow : zw_CeV M_X11_stuffRow 1 := ⟨⟨⟨by decide +kernel, by decide +kernel, by decide +kernel⟩, (zw_mG (List.mem_of_getElem? (i := 1555) (by decide +kernel)) rfl), (zw_mG (List.mem_of_getElem? (i := 108) (by decide +kernel)) rfl), by decide, by decide +kernel⟩, (zw_mG (List.mem_of_getElem? (i := 1554) (by decide +kernel)) rfl), (zw_mG (List.mem_of_getElem? (i := 75) (by decide +kernel)) rfl)⟩
def f_X11_stuffRow (v0 : Nat) (v1 : Int32) (I : zI) (R : zR) : Option (Int32) :=
  zw_g (zw_gc v0 11) (zw_g (zw_gc (R v0 22) 13) (zw_g (zw_in (I v0 18) (zw_SH (R v0 22)).2) ((f_X11_in v1 0 ((I (R v0 22) (Int32.toNatClampNeg (I v0 18))) - 1)).bind fun q4 => (if q4 = 0 then some (-1) else some ((4 * (I v0 18)) + v1)))))
theorem c_X11_stuffRow (X : zw_X) (v0 : Nat) (v1 : Int32) (I : zI) (R : zR) (J : zJ) {P : Option Value → aS → Prop} (o : Int32) (hf : f_X11_stuffRow v0 v1 I R = some o) (hk : P (some (.int o)) (I, R, J)) : zw_C X M_X11_stuffRow 1 0 0 199 [.ref v0, .int v1] (I, R, J) P := by
  show zy_V X M_X11_stuffRow 1 P 0 [.ref v0, .int v1] [] (I, R, J)
  unfold f_X11_stuffRow at hf
  refine zv_iload_n (pc := 0) d_X11_stuffRow_0 rfl ?_
  refine zv_iconst (pc := 1) d_X11_stuffRow_1 zc_i_0 ?_
  refine zv_aload_n (pc := 2) d_X11_stuffRow_2 rfl ?_
  obtain ⟨g1, hf⟩ := zw_gcE hf (by decide)
  obtain ⟨g2, hf⟩ := zw_gcE hf (by decide)
  refine zx_getR (pc := 3) d_X11_stuffRow_3 lk_CutStonesModel_46 (by decide) g1 g2 ?_
  refine zv_aload_n (pc := 6) d_X11_stuffRow_6 rfl ?_
  refine zx_getI (pc := 7) d_X11_stuffRow_7 lk_CutStonesModel_248 (by decide) g1 ?_
  obtain ⟨i3, hf⟩ := zw_inE hf
  refine zx_iald (pc := 10) d_X11_stuffRow_10 g2 i3 ?_
  refine zv_iconst (pc := 11) d_X11_stuffRow_11 zc_i_1 ?_
  refine zv_isub (pc := 12) d_X11_stuffRow_12 ?_
  obtain ⟨q4, hq4, hf⟩ := zw_bdE hf
  refine zx_callS (pc := 13) (As := [.int v1, .int 0, .int ((I (R v0 22) (Int32.toNatClampNeg (I v0 18))) - 1)]) (st := []) (d2 := 0) (M2 := M_X11_in) (P2 := (fun r S => r = (some (.int q4)) ∧ S = (I, R, J))) d_X11_stuffRow_13 (zw_mG (List.mem_of_getElem? (i := 1522) (by decide +kernel)) rfl) ce_X11_in (Nat.le_of_ble_eq_true rfl) rfl (Nat.le_of_ble_eq_true rfl) (by decide) (c_X11_in X v1 0 ((I (R v0 22) (Int32.toNatClampNeg (I v0 18))) - 1) I R J _ hq4 ⟨rfl, rfl⟩) ?_
  rintro _ _ ⟨rfl, rfl⟩
  show zy_V X M_X11_stuffRow 1 P (13 + 3) [.ref v0, .int v1] [.int q4] (I, R, J)
  rcases zw_ifE hf with ⟨c5, hf⟩ | ⟨c5, hf⟩
  · refine zv_if_eq (pc := 16) (tg := 30) d_X11_stuffRow_16 (by decide) (fun _ => ?_) (fun q => absurd c5 q)
    refine zv_iconst (pc := 30) d_X11_stuffRow_30 zc_i_m1 ?_
    cases hf
    exact zx_iret (pc := 31) d_X11_stuffRow_31 rfl hk
  · refine zv_if_eq (pc := 16) (tg := 30) d_X11_stuffRow_16 (by decide) (fun q => absurd q c5) (fun _ => ?_)
    refine zv_iconst (pc := 19) d_X11_stuffRow_19 zc_i_4 ?_
    refine zv_aload_n (pc := 20) d_X11_stuffRow_20 rfl ?_
    refine zx_getI (pc := 21) d_X11_stuffRow_21 lk_CutStonesModel_248 (by decide) g1 ?_
    refine zv_imul (pc := 24) d_X11_stuffRow_24 ?_
    refine zv_iload_n (pc := 25) d_X11_stuffRow_25 rfl ?_
    refine zv_iadd (pc := 26) d_X11_stuffRow_26 ?_
    refine zv_goto (pc := 27) (tg := 31) d_X11_stuffRow_27 (by decide) ?_
    cases hf
    exact zx_iret (pc := 31) d_X11_stuffRow_31 rfl hk
abbrev M_X11_weightOf : zw_M := (⟨"CutStonesModel", "weightOf", "(I)I"⟩, prog_13_method_51_code, 6, (Option.some Jvm.ClassFile.FieldType.int))
theorem d_X11_weightOf_0 : decode M_X11_weightOf.2.1 0 = .ok (.iconst 0, 1) := by decide +kernel
theorem d_X11_weightOf_1 : decode M_X11_weightOf.2.1 1 = .ok (.istore_n 2, 1) := by decide +kernel
theorem d_X11_weightOf_2 : decode M_X11_weightOf.2.1 2 = .ok (.iconst 0, 1) := by decide +kernel
theorem d_X11_weightOf_3 : decode M_X11_weightOf.2.1 3 = .ok (.istore_n 3, 1) := by decide +kernel
theorem d_X11_weightOf_4 : decode M_X11_weightOf.2.1 4 = .ok (.iload_n 3, 1) := by decide +kernel
theorem d_X11_weightOf_5 : decode M_X11_weightOf.2.1 5 = .ok (.aload_n 0, 1) := by decide +kernel
theorem d_X11_weightOf_6 : decode M_X11_weightOf.2.1 6 = .ok (.getfield 67, 3) := by decide +kernel
theorem d_X11_weightOf_9 : decode M_X11_weightOf.2.1 9 = .ok (.iload_n 1, 1) := by decide +kernel
theorem d_X11_weightOf_10 : decode M_X11_weightOf.2.1 10 = .ok (.iaload, 1) := by decide +kernel
theorem d_X11_weightOf_11 : decode M_X11_weightOf.2.1 11 = .ok (.if_icmp .ge 62, 3) := by decide +kernel
theorem d_X11_weightOf_14 : decode M_X11_weightOf.2.1 14 = .ok (.iconst 0, 1) := by decide +kernel
theorem d_X11_weightOf_15 : decode M_X11_weightOf.2.1 15 = .ok (.istore 4, 2) := by decide +kernel
theorem d_X11_weightOf_17 : decode M_X11_weightOf.2.1 17 = .ok (.iload 4, 2) := by decide +kernel
theorem d_X11_weightOf_19 : decode M_X11_weightOf.2.1 19 = .ok (.aload_n 0, 1) := by decide +kernel
theorem d_X11_weightOf_20 : decode M_X11_weightOf.2.1 20 = .ok (.getfield 64, 3) := by decide +kernel
theorem d_X11_weightOf_23 : decode M_X11_weightOf.2.1 23 = .ok (.iload_n 1, 1) := by decide +kernel
theorem d_X11_weightOf_24 : decode M_X11_weightOf.2.1 24 = .ok (.iaload, 1) := by decide +kernel
theorem d_X11_weightOf_25 : decode M_X11_weightOf.2.1 25 = .ok (.if_icmp .ge 42, 3) := by decide +kernel
theorem d_X11_weightOf_28 : decode M_X11_weightOf.2.1 28 = .ok (.aload_n 0, 1) := by decide +kernel
theorem d_X11_weightOf_29 : decode M_X11_weightOf.2.1 29 = .ok (.iload_n 1, 1) := by decide +kernel
theorem d_X11_weightOf_30 : decode M_X11_weightOf.2.1 30 = .ok (.iload 4, 2) := by decide +kernel
theorem d_X11_weightOf_32 : decode M_X11_weightOf.2.1 32 = .ok (.iload_n 3, 1) := by decide +kernel
theorem d_X11_weightOf_33 : decode M_X11_weightOf.2.1 33 = .ok (.invokevirtual 352, 3) := by decide +kernel
theorem d_X11_weightOf_36 : decode M_X11_weightOf.2.1 36 = .ok (.istore 5, 2) := by decide +kernel
theorem d_X11_weightOf_38 : decode M_X11_weightOf.2.1 38 = .ok (.iload_n 2, 1) := by decide +kernel
theorem d_X11_weightOf_39 : decode M_X11_weightOf.2.1 39 = .ok (.iload 5, 2) := by decide +kernel
theorem d_X11_weightOf_41 : decode M_X11_weightOf.2.1 41 = .ok (.ifCond .ne 7, 3) := by decide +kernel
theorem d_X11_weightOf_44 : decode M_X11_weightOf.2.1 44 = .ok (.iconst 0, 1) := by decide +kernel
theorem d_X11_weightOf_45 : decode M_X11_weightOf.2.1 45 = .ok (.goto 14, 3) := by decide +kernel
theorem d_X11_weightOf_48 : decode M_X11_weightOf.2.1 48 = .ok (.iload 5, 2) := by decide +kernel
theorem d_X11_weightOf_50 : decode M_X11_weightOf.2.1 50 = .ok (.iconst 5, 1) := by decide +kernel
theorem d_X11_weightOf_51 : decode M_X11_weightOf.2.1 51 = .ok (.if_icmp .ge 7, 3) := by decide +kernel
theorem d_X11_weightOf_54 : decode M_X11_weightOf.2.1 54 = .ok (.iconst 1, 1) := by decide +kernel
theorem d_X11_weightOf_55 : decode M_X11_weightOf.2.1 55 = .ok (.goto 4, 3) := by decide +kernel
theorem d_X11_weightOf_58 : decode M_X11_weightOf.2.1 58 = .ok (.iconst 2, 1) := by decide +kernel
theorem d_X11_weightOf_59 : decode M_X11_weightOf.2.1 59 = .ok (.iadd, 1) := by decide +kernel
theorem d_X11_weightOf_60 : decode M_X11_weightOf.2.1 60 = .ok (.istore_n 2, 1) := by decide +kernel
theorem d_X11_weightOf_61 : decode M_X11_weightOf.2.1 61 = .ok (.iinc 4 1, 3) := by decide +kernel
theorem d_X11_weightOf_64 : decode M_X11_weightOf.2.1 64 = .ok (.goto (-47), 3) := by decide +kernel
theorem d_X11_weightOf_67 : decode M_X11_weightOf.2.1 67 = .ok (.iinc 3 1, 3) := by decide +kernel
theorem d_X11_weightOf_70 : decode M_X11_weightOf.2.1 70 = .ok (.goto (-66), 3) := by decide +kernel
theorem d_X11_weightOf_73 : decode M_X11_weightOf.2.1 73 = .ok (.iload_n 2, 1) := by decide +kernel
theorem d_X11_weightOf_74 : decode M_X11_weightOf.2.1 74 = .ok (.ireturn, 1) := by decide +kernel
theorem ce_X11_weightOf : zw_CeV M_X11_weightOf 1 := ⟨⟨⟨by decide +kernel, by decide +kernel, by decide +kernel⟩, (zw_mG (List.mem_of_getElem? (i := 1532) (by decide +kernel)) rfl), (zw_mG (List.mem_of_getElem? (i := 108) (by decide +kernel)) rfl), by decide, by decide +kernel⟩, (zw_mG (List.mem_of_getElem? (i := 1531) (by decide +kernel)) rfl), (zw_mG (List.mem_of_getElem? (i := 73) (by decide +kernel)) rfl)⟩
def j_X11_weightOf_59_17 (v0 : Nat) (v1 : Int32) (v3 : Int32) (v4 : Int32) (s0 : Int32) (s1 : Int32) (I : zI) (R : zR) : Option ((Int32 × Int32) ⊕ (Int32)) :=
  zw_let ((s0 + s1) : Int32) fun x12 => (zw_let (v4 + 1 : Int32) fun x13 => (some (.inl (x12, x13))))
theorem j_X11_weightOf_59_17_ok (X : zw_X) (P : Option Value → aS → Prop) (v0 : Nat) (v1 : Int32) (v3 : Int32) (v4 : Int32) (s0 : Int32) (s1 : Int32) (I : zI) (R : zR) (J : zJ) (o : (Int32 × Int32) ⊕ (Int32)) (hf : j_X11_weightOf_59_17 v0 v1 v3 v4 s0 s1 I R = some o) (hk : (zw_se (fun t => zy_V X M_X11_weightOf 1 P 17 [.ref v0, .int v1, .int t.1, .int v3, .int t.2, .null] [] (I, R, J)) (fun r => zy_V X M_X11_weightOf 1 P 67 [.ref v0, .int v1, .int r, .int v3, .null, .null] [] (I, R, J)) o)) : zy_V X M_X11_weightOf 1 P 59 [.ref v0, .int v1, .null, .int v3, .int v4, .null] [.int s1, .int s0] (I, R, J) := by
  unfold j_X11_weightOf_59_17 at hf
  refine zv_iadd (pc := 59) d_X11_weightOf_59 ?_
  obtain ⟨x12, ex12, hf⟩ := zw_letE hf
  refine zx_istore_n (pc := 60) (x2 := x12) (L2 := [.ref v0, .int v1, .int x12, .int v3, .int v4, .null]) d_X11_weightOf_60 (by decide) ex12 rfl ?_
  obtain ⟨x13, ex13, hf⟩ := zw_letE hf
  refine zx_iinc (pc := 61) (x2 := x13) (L2 := [.ref v0, .int v1, .int x12, .int v3, .int x13, .null]) d_X11_weightOf_61 (by decide) rfl zc_i_1 ex13 rfl ?_
  refine zv_goto (pc := 64) (tg := 17) d_X11_weightOf_64 (by decide) ?_
  cases hf
  exact zx_weak (zw_leS (zw_leS (zw_leS (zw_leS (zw_leS (zw_leN zw_leZ)))))) hk
def s_X11_weightOf_17 (v0 : Nat) (v1 : Int32) (v3 : Int32) (I : zI) (R : zR) (s : Int32 × Int32) : Option ((Int32 × Int32) ⊕ (Int32)) :=
  zw_g (zw_gc v0 11) (zw_g (zw_gc (R v0 28) 13) (zw_g (zw_in v1 (zw_SH (R v0 28)).2) (if (I (R v0 28) (Int32.toNatClampNeg v1)) ≤ s.2 then some (.inr s.1) else (f_X11_cellAt v0 v1 s.2 v3 I R).bind fun q9 => (if ¬ q9 = 0 then if 5 ≤ q9 then j_X11_weightOf_59_17 v0 v1 v3 s.2 s.1 2 I R else j_X11_weightOf_59_17 v0 v1 v3 s.2 s.1 1 I R else j_X11_weightOf_59_17 v0 v1 v3 s.2 s.1 0 I R))))
theorem s_X11_weightOf_17_ok (X : zw_X) (P : Option Value → aS → Prop) (v0 : Nat) (v1 : Int32) (v3 : Int32) (I : zI) (R : zR) (J : zJ) (s : Int32 × Int32) (o : (Int32 × Int32) ⊕ (Int32)) (hf : s_X11_weightOf_17 v0 v1 v3 I R s = some o) (hk : (zw_se (fun t => zy_V X M_X11_weightOf 1 P 17 [.ref v0, .int v1, .int t.1, .int v3, .int t.2, .null] [] (I, R, J)) (fun r => zy_V X M_X11_weightOf 1 P 67 [.ref v0, .int v1, .int r, .int v3, .null, .null] [] (I, R, J)) o)) : zy_V X M_X11_weightOf 1 P 17 [.ref v0, .int v1, .int s.1, .int v3, .int s.2, .null] [] (I, R, J) := by
  unfold s_X11_weightOf_17 at hf
  refine zv_iload (pc := 17) d_X11_weightOf_17 rfl ?_
  refine zv_aload_n (pc := 19) d_X11_weightOf_19 rfl ?_
  obtain ⟨g5, hf⟩ := zw_gcE hf (by decide)
  obtain ⟨g6, hf⟩ := zw_gcE hf (by decide)
  refine zx_getR (pc := 20) d_X11_weightOf_20 lk_CutStonesModel_64 (by decide) g5 g6 ?_
  refine zv_iload_n (pc := 23) d_X11_weightOf_23 rfl ?_
  obtain ⟨i7, hf⟩ := zw_inE hf
  refine zx_iald (pc := 24) d_X11_weightOf_24 g6 i7 ?_
  rcases zw_ifE hf with ⟨c8, hf⟩ | ⟨c8, hf⟩
  · refine zv_icmp_ge (pc := 25) (tg := 67) d_X11_weightOf_25 (by decide) (fun _ => ?_) (fun q => absurd c8 q)
    cases hf
    exact zx_weak (zw_leS (zw_leS (zw_leS (zw_leS (zw_leN (zw_leN zw_leZ)))))) hk
  · refine zv_icmp_ge (pc := 25) (tg := 67) d_X11_weightOf_25 (by decide) (fun q => absurd q c8) (fun _ => ?_)
    refine zv_aload_n (pc := 28) d_X11_weightOf_28 rfl ?_
    refine zv_iload_n (pc := 29) d_X11_weightOf_29 rfl ?_
    refine zv_iload (pc := 30) d_X11_weightOf_30 rfl ?_
    refine zv_iload_n (pc := 32) d_X11_weightOf_32 rfl ?_
    obtain ⟨q9, hq9, hf⟩ := zw_bdE hf
    refine zx_callV (pc := 33) (As := [.int v1, .int s.2, .int v3]) (o := v0) (st := []) (d2 := 0) (M2 := M_X11_cellAt) (P2 := (fun r S => r = (some (.int q9)) ∧ S = (I, R, J))) d_X11_weightOf_33 (zw_mG (List.mem_of_getElem? (i := 1533) (by decide +kernel)) rfl) ce_X11_cellAt (zw_RvK g5 rfl rfl) (Nat.le_of_ble_eq_true rfl) rfl (Nat.le_of_ble_eq_true rfl) (by decide) (c_X11_cellAt X v0 v1 s.2 v3 I R J _ hq9 ⟨rfl, rfl⟩) ?_
    rintro _ _ ⟨rfl, rfl⟩
    show zy_V X M_X11_weightOf 1 P (33 + 3) [.ref v0, .int v1, .int s.1, .int v3, .int s.2, .null] [.int q9] (I, R, J)
    refine zx_istore (pc := 36) (x2 := q9) (L2 := [.ref v0, .int v1, .int s.1, .int v3, .int s.2, .int q9]) d_X11_weightOf_36 (by decide) rfl rfl ?_
    refine zv_iload_n (pc := 38) d_X11_weightOf_38 rfl ?_
    refine zv_iload (pc := 39) d_X11_weightOf_39 rfl ?_
    rcases zw_ifE hf with ⟨c10, hf⟩ | ⟨c10, hf⟩
    · refine zv_if_ne (pc := 41) (tg := 48) d_X11_weightOf_41 (by decide) (fun _ => ?_) (fun q => absurd q c10)
      refine zv_iload (pc := 48) d_X11_weightOf_48 rfl ?_
      refine zv_iconst (pc := 50) d_X11_weightOf_50 zc_i_5 ?_
      rcases zw_ifE hf with ⟨c11, hf⟩ | ⟨c11, hf⟩
      · refine zv_icmp_ge (pc := 51) (tg := 58) d_X11_weightOf_51 (by decide) (fun _ => ?_) (fun q => absurd c11 q)
        refine zv_iconst (pc := 58) d_X11_weightOf_58 zc_i_2 ?_
        exact zx_weak (zw_leS (zw_leS (zw_leN (zw_leS (zw_leS (zw_leN zw_leZ)))))) (j_X11_weightOf_59_17_ok X P v0 v1 v3 s.2 s.1 2 I R J _ hf hk)
      · refine zv_icmp_ge (pc := 51) (tg := 58) d_X11_weightOf_51 (by decide) (fun q => absurd q c11) (fun _ => ?_)
        refine zv_iconst (pc := 54) d_X11_weightOf_54 zc_i_1 ?_
        refine zv_goto (pc := 55) (tg := 59) d_X11_weightOf_55 (by decide) ?_
        exact zx_weak (zw_leS (zw_leS (zw_leN (zw_leS (zw_leS (zw_leN zw_leZ)))))) (j_X11_weightOf_59_17_ok X P v0 v1 v3 s.2 s.1 1 I R J _ hf hk)
    · refine zv_if_ne (pc := 41) (tg := 48) d_X11_weightOf_41 (by decide) (fun q => absurd q c10) (fun _ => ?_)
      refine zv_iconst (pc := 44) d_X11_weightOf_44 zc_i_0 ?_
      refine zv_goto (pc := 45) (tg := 59) d_X11_weightOf_45 (by decide) ?_
      exact zx_weak (zw_leS (zw_leS (zw_leN (zw_leS (zw_leS (zw_leN zw_leZ)))))) (j_X11_weightOf_59_17_ok X P v0 v1 v3 s.2 s.1 0 I R J _ hf hk)
theorem s_X11_weightOf_17_lp (X : zw_X) (P : Option Value → aS → Prop) (v0 : Nat) (v1 : Int32) (v3 : Int32) (I : zI) (R : zR) (J : zJ) (n : Nat) (s : Int32 × Int32) (r : Int32) (h : zw_it (s_X11_weightOf_17 v0 v1 v3 I R) n s = some r) (hq : zy_V X M_X11_weightOf 1 P 67 [.ref v0, .int v1, .int r, .int v3, .null, .null] [] (I, R, J)) : zy_V X M_X11_weightOf 1 P 17 [.ref v0, .int v1, .int s.1, .int v3, .int s.2, .null] [] (I, R, J) :=
  zw_itE (A := (fun t : Int32 × Int32 => zy_V X M_X11_weightOf 1 P 17 [.ref v0, .int v1, .int t.1, .int v3, .int t.2, .null] [] (I, R, J))) (Q := (fun r : Int32 => zy_V X M_X11_weightOf 1 P 67 [.ref v0, .int v1, .int r, .int v3, .null, .null] [] (I, R, J))) (fun s o h1 h2 => s_X11_weightOf_17_ok X P v0 v1 v3 I R J s o h1 h2) n s r h hq
def s_X11_weightOf_4 (v0 : Nat) (v1 : Int32) (I : zI) (R : zR) (s : Int32 × Int32) : Option ((Int32 × Int32) ⊕ (Int32)) :=
  zw_g (zw_gc v0 11) (zw_g (zw_gc (R v0 29) 13) (zw_g (zw_in v1 (zw_SH (R v0 29)).2) (if (I (R v0 29) (Int32.toNatClampNeg v1)) ≤ s.2 then some (.inr s.1) else (zw_it (s_X11_weightOf_17 v0 v1 s.2 I R) 1000000 (s.1, 0)).bind fun q14 => (zw_let (s.2 + 1 : Int32) fun x15 => (some (.inl (q14, x15)))))))
theorem s_X11_weightOf_4_ok (X : zw_X) (P : Option Value → aS → Prop) (v0 : Nat) (v1 : Int32) (I : zI) (R : zR) (J : zJ) (s : Int32 × Int32) (o : (Int32 × Int32) ⊕ (Int32)) (hf : s_X11_weightOf_4 v0 v1 I R s = some o) (hk : (zw_se (fun t => zy_V X M_X11_weightOf 1 P 4 [.ref v0, .int v1, .int t.1, .int t.2, .null, .null] [] (I, R, J)) (fun r => zy_V X M_X11_weightOf 1 P 73 [.null, .null, .int r, .null, .null, .null] [] (I, R, J)) o)) : zy_V X M_X11_weightOf 1 P 4 [.ref v0, .int v1, .int s.1, .int s.2, .null, .null] [] (I, R, J) := by
  unfold s_X11_weightOf_4 at hf
  refine zv_iload_n (pc := 4) d_X11_weightOf_4 rfl ?_
  refine zv_aload_n (pc := 5) d_X11_weightOf_5 rfl ?_
  obtain ⟨g1, hf⟩ := zw_gcE hf (by decide)
  obtain ⟨g2, hf⟩ := zw_gcE hf (by decide)
  refine zx_getR (pc := 6) d_X11_weightOf_6 lk_CutStonesModel_67 (by decide) g1 g2 ?_
  refine zv_iload_n (pc := 9) d_X11_weightOf_9 rfl ?_
  obtain ⟨i3, hf⟩ := zw_inE hf
  refine zx_iald (pc := 10) d_X11_weightOf_10 g2 i3 ?_
  rcases zw_ifE hf with ⟨c4, hf⟩ | ⟨c4, hf⟩
  · refine zv_icmp_ge (pc := 11) (tg := 73) d_X11_weightOf_11 (by decide) (fun _ => ?_) (fun q => absurd c4 q)
    cases hf
    exact zx_weak (zw_leN (zw_leN (zw_leS (zw_leN (zw_leN (zw_leN zw_leZ)))))) hk
  · refine zv_icmp_ge (pc := 11) (tg := 73) d_X11_weightOf_11 (by decide) (fun q => absurd q c4) (fun _ => ?_)
    refine zv_iconst (pc := 14) d_X11_weightOf_14 zc_i_0 ?_
    refine zx_istore (pc := 15) (x2 := 0) (L2 := [.ref v0, .int v1, .int s.1, .int s.2, .int 0, .null]) d_X11_weightOf_15 (by decide) rfl rfl ?_
    obtain ⟨q14, hq14, hf⟩ := zw_bdE hf
    refine zx_weak (L' := [.ref v0, .int v1, .int s.1, .int s.2, .int 0, .null]) (zw_leS (zw_leS (zw_leS (zw_leS (zw_leS (zw_leN zw_leZ)))))) (s_X11_weightOf_17_lp X P v0 v1 s.2 I R J _ _ _ hq14 ?_)
    show zy_V X M_X11_weightOf 1 P 67 [.ref v0, .int v1, .int q14, .int s.2, .null, .null] [] (I, R, J)
    obtain ⟨x15, ex15, hf⟩ := zw_letE hf
    refine zx_iinc (pc := 67) (x2 := x15) (L2 := [.ref v0, .int v1, .int q14, .int x15, .null, .null]) d_X11_weightOf_67 (by decide) rfl zc_i_1 ex15 rfl ?_
    refine zv_goto (pc := 70) (tg := 4) d_X11_weightOf_70 (by decide) ?_
    cases hf
    exact zx_weak (zw_leS (zw_leS (zw_leS (zw_leS (zw_leN (zw_leN zw_leZ)))))) hk
theorem s_X11_weightOf_4_lp (X : zw_X) (P : Option Value → aS → Prop) (v0 : Nat) (v1 : Int32) (I : zI) (R : zR) (J : zJ) (n : Nat) (s : Int32 × Int32) (r : Int32) (h : zw_it (s_X11_weightOf_4 v0 v1 I R) n s = some r) (hq : zy_V X M_X11_weightOf 1 P 73 [.null, .null, .int r, .null, .null, .null] [] (I, R, J)) : zy_V X M_X11_weightOf 1 P 4 [.ref v0, .int v1, .int s.1, .int s.2, .null, .null] [] (I, R, J) :=
  zw_itE (A := (fun t : Int32 × Int32 => zy_V X M_X11_weightOf 1 P 4 [.ref v0, .int v1, .int t.1, .int t.2, .null, .null] [] (I, R, J))) (Q := (fun r : Int32 => zy_V X M_X11_weightOf 1 P 73 [.null, .null, .int r, .null, .null, .null] [] (I, R, J))) (fun s o h1 h2 => s_X11_weightOf_4_ok X P v0 v1 I R J s o h1 h2) n s r h hq
def f_X11_weightOf (v0 : Nat) (v1 : Int32) (I : zI) (R : zR) : Option (Int32) :=
  (zw_it (s_X11_weightOf_4 v0 v1 I R) 1000000 (0, 0)).bind fun q16 => (some q16)
theorem c_X11_weightOf (X : zw_X) (v0 : Nat) (v1 : Int32) (I : zI) (R : zR) (J : zJ) {P : Option Value → aS → Prop} (o : Int32) (hf : f_X11_weightOf v0 v1 I R = some o) (hk : P (some (.int o)) (I, R, J)) : zw_C X M_X11_weightOf 1 0 0 199 [.ref v0, .int v1] (I, R, J) P := by
  show zy_V X M_X11_weightOf 1 P 0 [.ref v0, .int v1, .null, .null, .null, .null] [] (I, R, J)
  unfold f_X11_weightOf at hf
  refine zv_iconst (pc := 0) d_X11_weightOf_0 zc_i_0 ?_
  refine zx_istore_n (pc := 1) (x2 := 0) (L2 := [.ref v0, .int v1, .int 0, .null, .null, .null]) d_X11_weightOf_1 (by decide) rfl rfl ?_
  refine zv_iconst (pc := 2) d_X11_weightOf_2 zc_i_0 ?_
  refine zx_istore_n (pc := 3) (x2 := 0) (L2 := [.ref v0, .int v1, .int 0, .int 0, .null, .null]) d_X11_weightOf_3 (by decide) rfl rfl ?_
  obtain ⟨q16, hq16, hf⟩ := zw_bdE hf
  refine zx_weak (L' := [.ref v0, .int v1, .int 0, .int 0, .null, .null]) (zw_leS (zw_leS (zw_leS (zw_leS (zw_leN (zw_leN zw_leZ)))))) (s_X11_weightOf_4_lp X P v0 v1 I R J _ _ _ hq16 ?_)
  show zy_V X M_X11_weightOf 1 P 73 [.null, .null, .int q16, .null, .null, .null] [] (I, R, J)
  refine zv_iload_n (pc := 73) d_X11_weightOf_73 rfl ?_
  cases hf
  exact zx_iret (pc := 74) d_X11_weightOf_74 rfl hk
