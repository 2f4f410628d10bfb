abbrev M_X8_wordKind : zw_M := (⟨"CutStones$Tape", "wordKind", "(II)I"⟩, prog_10_method_8_code, 7, (Option.some Jvm.ClassFile.FieldType.int))
theorem d_X8_wordKind_0 : decode M_X8_wordKind.2.1 0 = .ok (.iconst 0, 1) := by decide +kernel
theorem d_X8_wordKind_1 : decode M_X8_wordKind.2.1 1 = .ok (.istore_n 3, 1) := by decide +kernel
theorem d_X8_wordKind_2 : decode M_X8_wordKind.2.1 2 = .ok (.iload_n 3, 1) := by decide +kernel
theorem d_X8_wordKind_3 : decode M_X8_wordKind.2.1 3 = .ok (.ldc 71, 2) := by decide +kernel
theorem d_X8_wordKind_5 : decode M_X8_wordKind.2.1 5 = .ok (.invokevirtual 73, 3) := by decide +kernel
theorem d_X8_wordKind_8 : decode M_X8_wordKind.2.1 8 = .ok (.bipush 8, 2) := by decide +kernel
theorem d_X8_wordKind_10 : decode M_X8_wordKind.2.1 10 = .ok (.idiv, 1) := by decide +kernel
theorem d_X8_wordKind_11 : decode M_X8_wordKind.2.1 11 = .ok (.if_icmp .ge 90, 3) := by decide +kernel
theorem d_X8_wordKind_14 : decode M_X8_wordKind.2.1 14 = .ok (.iconst 0, 1) := by decide +kernel
theorem d_X8_wordKind_15 : decode M_X8_wordKind.2.1 15 = .ok (.istore 4, 2) := by decide +kernel
theorem d_X8_wordKind_17 : decode M_X8_wordKind.2.1 17 = .ok (.iconst 0, 1) := by decide +kernel
theorem d_X8_wordKind_18 : decode M_X8_wordKind.2.1 18 = .ok (.istore 5, 2) := by decide +kernel
theorem d_X8_wordKind_20 : decode M_X8_wordKind.2.1 20 = .ok (.iload 4, 2) := by decide +kernel
theorem d_X8_wordKind_22 : decode M_X8_wordKind.2.1 22 = .ok (.iload 5, 2) := by decide +kernel
theorem d_X8_wordKind_24 : decode M_X8_wordKind.2.1 24 = .ok (.if_icmp .ne 59, 3) := by decide +kernel
theorem d_X8_wordKind_27 : decode M_X8_wordKind.2.1 27 = .ok (.iload 5, 2) := by decide +kernel
theorem d_X8_wordKind_29 : decode M_X8_wordKind.2.1 29 = .ok (.bipush 8, 2) := by decide +kernel
theorem d_X8_wordKind_31 : decode M_X8_wordKind.2.1 31 = .ok (.if_icmp .ge 52, 3) := by decide +kernel
theorem d_X8_wordKind_34 : decode M_X8_wordKind.2.1 34 = .ok (.iload_n 1, 1) := by decide +kernel
theorem d_X8_wordKind_35 : decode M_X8_wordKind.2.1 35 = .ok (.iload 5, 2) := by decide +kernel
theorem d_X8_wordKind_37 : decode M_X8_wordKind.2.1 37 = .ok (.iadd, 1) := by decide +kernel
theorem d_X8_wordKind_38 : decode M_X8_wordKind.2.1 38 = .ok (.iload_n 2, 1) := by decide +kernel
theorem d_X8_wordKind_39 : decode M_X8_wordKind.2.1 39 = .ok (.if_icmp .ge 14, 3) := by decide +kernel
theorem d_X8_wordKind_42 : decode M_X8_wordKind.2.1 42 = .ok (.aload_n 0, 1) := by decide +kernel
theorem d_X8_wordKind_43 : decode M_X8_wordKind.2.1 43 = .ok (.iload_n 1, 1) := by decide +kernel
theorem d_X8_wordKind_44 : decode M_X8_wordKind.2.1 44 = .ok (.iload 5, 2) := by decide +kernel
theorem d_X8_wordKind_46 : decode M_X8_wordKind.2.1 46 = .ok (.iadd, 1) := by decide +kernel
theorem d_X8_wordKind_47 : decode M_X8_wordKind.2.1 47 = .ok (.invokevirtual 38, 3) := by decide +kernel
theorem d_X8_wordKind_50 : decode M_X8_wordKind.2.1 50 = .ok (.goto 5, 3) := by decide +kernel
theorem d_X8_wordKind_53 : decode M_X8_wordKind.2.1 53 = .ok (.bipush 32, 2) := by decide +kernel
theorem d_X8_wordKind_55 : decode M_X8_wordKind.2.1 55 = .ok (.istore 6, 2) := by decide +kernel
theorem d_X8_wordKind_57 : decode M_X8_wordKind.2.1 57 = .ok (.ldc 71, 2) := by decide +kernel
theorem d_X8_wordKind_59 : decode M_X8_wordKind.2.1 59 = .ok (.iload_n 3, 1) := by decide +kernel
theorem d_X8_wordKind_60 : decode M_X8_wordKind.2.1 60 = .ok (.bipush 8, 2) := by decide +kernel
theorem d_X8_wordKind_62 : decode M_X8_wordKind.2.1 62 = .ok (.imul, 1) := by decide +kernel
theorem d_X8_wordKind_63 : decode M_X8_wordKind.2.1 63 = .ok (.iload 5, 2) := by decide +kernel
theorem d_X8_wordKind_65 : decode M_X8_wordKind.2.1 65 = .ok (.iadd, 1) := by decide +kernel
theorem d_X8_wordKind_66 : decode M_X8_wordKind.2.1 66 = .ok (.invokevirtual 78, 3) := by decide +kernel
theorem d_X8_wordKind_69 : decode M_X8_wordKind.2.1 69 = .ok (.iload 6, 2) := by decide +kernel
theorem d_X8_wordKind_71 : decode M_X8_wordKind.2.1 71 = .ok (.if_icmp .ne 6, 3) := by decide +kernel
theorem d_X8_wordKind_74 : decode M_X8_wordKind.2.1 74 = .ok (.iinc 4 1, 3) := by decide +kernel
theorem d_X8_wordKind_77 : decode M_X8_wordKind.2.1 77 = .ok (.iinc 5 1, 3) := by decide +kernel
theorem d_X8_wordKind_80 : decode M_X8_wordKind.2.1 80 = .ok (.goto (-60), 3) := by decide +kernel
theorem d_X8_wordKind_83 : decode M_X8_wordKind.2.1 83 = .ok (.iload 4, 2) := by decide +kernel
theorem d_X8_wordKind_85 : decode M_X8_wordKind.2.1 85 = .ok (.bipush 8, 2) := by decide +kernel
theorem d_X8_wordKind_87 : decode M_X8_wordKind.2.1 87 = .ok (.if_icmp .ne 8, 3) := by decide +kernel
theorem d_X8_wordKind_90 : decode M_X8_wordKind.2.1 90 = .ok (.bipush 18, 2) := by decide +kernel
theorem d_X8_wordKind_92 : decode M_X8_wordKind.2.1 92 = .ok (.iload_n 3, 1) := by decide +kernel
theorem d_X8_wordKind_93 : decode M_X8_wordKind.2.1 93 = .ok (.iadd, 1) := by decide +kernel
theorem d_X8_wordKind_94 : decode M_X8_wordKind.2.1 94 = .ok (.ireturn, 1) := by decide +kernel
theorem d_X8_wordKind_95 : decode M_X8_wordKind.2.1 95 = .ok (.iinc 3 1, 3) := by decide +kernel
theorem d_X8_wordKind_98 : decode M_X8_wordKind.2.1 98 = .ok (.goto (-96), 3) := by decide +kernel
theorem d_X8_wordKind_101 : decode M_X8_wordKind.2.1 101 = .ok (.iconst 2, 1) := by decide +kernel
theorem d_X8_wordKind_102 : decode M_X8_wordKind.2.1 102 = .ok (.ireturn, 1) := by decide +kernel
theorem ce_X8_wordKind : zw_CeV M_X8_wordKind 2 := ⟨⟨⟨by decide +kernel, by decide +kernel, by decide +kernel⟩, (zw_mG (List.mem_of_getElem? (i := 566) (by decide +kernel)) rfl), (zw_mG (List.mem_of_getElem? (i := 97) (by decide +kernel)) rfl), by decide, by decide +kernel⟩, (zw_mG (List.mem_of_getElem? (i := 565) (by decide +kernel)) rfl), (zw_mG (List.mem_of_getElem? (i := 3) (by decide +kernel)) rfl)⟩
def j_X8_wordKind_77_20 (v0 : Nat) (v1 : Int32) (v2 : Int32) (v3 : Int32) (v4 : Int32) (v5 : Int32) (I : zI) (R : zR) : Option ((Int32 × Int32) ⊕ (Int32)) :=
  zw_let (v5 + 1 : Int32) fun x10 => (some (.inl (v4, x10)))
theorem j_X8_wordKind_77_20_ok (X : zw_X) (P : Option Value → aS → Prop) (v0 : Nat) (v1 : Int32) (v2 : Int32) (v3 : Int32) (v4 : Int32) (v5 : Int32) (I : zI) (R : zR) (J : zJ) (o : (Int32 × Int32) ⊕ (Int32)) (hf : j_X8_wordKind_77_20 v0 v1 v2 v3 v4 v5 I R = some o) (hk : (zw_se (fun t => zy_V X M_X8_wordKind 5 P 20 [.ref v0, .int v1, .int v2, .int v3, .int t.1, .int t.2, .null] [] (I, R, J)) (fun r => zy_V X M_X8_wordKind 5 P 83 [.ref v0, .int v1, .int v2, .int v3, .int r, .null, .null] [] (I, R, J)) o)) : zy_V X M_X8_wordKind 5 P 77 [.ref v0, .int v1, .int v2, .int v3, .int v4, .int v5, .null] [] (I, R, J) := by
  unfold j_X8_wordKind_77_20 at hf
  obtain ⟨x10, ex10, hf⟩ := zw_letE hf
  refine zx_iinc (pc := 77) (x2 := x10) (L2 := [.ref v0, .int v1, .int v2, .int v3, .int v4, .int x10, .null]) d_X8_wordKind_77 (by decide) rfl zc_i_1 ex10 rfl ?_
  refine zv_goto (pc := 80) (tg := 20) d_X8_wordKind_80 (by decide) ?_
  cases hf
  exact zx_weak (zw_leS (zw_leS (zw_leS (zw_leS (zw_leS (zw_leS (zw_leN zw_leZ))))))) hk
def j_X8_wordKind_55_20 (v0 : Nat) (v1 : Int32) (v2 : Int32) (v3 : Int32) (v4 : Int32) (v5 : Int32) (s0 : Int32) (I : zI) (R : zR) : Option ((Int32 × Int32) ⊕ (Int32)) :=
  zw_g (decide (0 < 3)) ((f_J0_charAt_5068e 0 ((v3 * 8) + v5)).bind fun q8 => (if ¬ q8 = s0 then j_X8_wordKind_77_20 v0 v1 v2 v3 v4 v5 I R else zw_let (v4 + 1 : Int32) fun x11 => (j_X8_wordKind_77_20 v0 v1 v2 v3 x11 v5 I R)))
theorem j_X8_wordKind_55_20_ok (X : zw_X) (P : Option Value → aS → Prop) (v0 : Nat) (v1 : Int32) (v2 : Int32) (v3 : Int32) (v4 : Int32) (v5 : Int32) (s0 : Int32) (I : zI) (R : zR) (J : zJ) (o : (Int32 × Int32) ⊕ (Int32)) (hf : j_X8_wordKind_55_20 v0 v1 v2 v3 v4 v5 s0 I R = some o) (hk : (zw_se (fun t => zy_V X M_X8_wordKind 5 P 20 [.ref v0, .int v1, .int v2, .int v3, .int t.1, .int t.2, .null] [] (I, R, J)) (fun r => zy_V X M_X8_wordKind 5 P 83 [.ref v0, .int v1, .int v2, .int v3, .int r, .null, .null] [] (I, R, J)) o)) : zy_V X M_X8_wordKind 5 P 55 [.ref v0, .int v1, .int v2, .int v3, .int v4, .int v5, .null] [.int s0] (I, R, J) := by
  unfold j_X8_wordKind_55_20 at hf
  refine zx_istore (pc := 55) (x2 := s0) (L2 := [.ref v0, .int v1, .int v2, .int v3, .int v4, .int v5, .int s0]) d_X8_wordKind_55 (by decide) rfl rfl ?_
  refine zv_ldcS (pc := 57) (a := 0) d_X8_wordKind_57 (by decide) rfl rfl ?_
  refine zv_iload_n (pc := 59) d_X8_wordKind_59 rfl ?_
  refine zv_bipush (pc := 60) d_X8_wordKind_60 zc_b_8 ?_
  refine zv_imul (pc := 62) d_X8_wordKind_62 ?_
  refine zv_iload (pc := 63) d_X8_wordKind_63 rfl ?_
  refine zv_iadd (pc := 65) d_X8_wordKind_65 ?_
  obtain ⟨g7, hf⟩ := zw_gE hf
  have g7 := of_decide_eq_true g7
  obtain ⟨q8, hq8, hf⟩ := zw_bdE hf
  refine zx_callV (pc := 66) (As := [.int ((v3 * 8) + v5)]) (o := (1006 + 0)) (st := []) (d2 := 4) (M2 := M_J0_charAt_5068e) (P2 := (fun r S => r = (some (.int q8)) ∧ S = (I, R, J))) d_X8_wordKind_66 (zw_mG (List.mem_of_getElem? (i := 578) (by decide +kernel)) rfl) ce_J0_charAt_5068e (Or.inr ⟨rfl, 0, g7, rfl⟩) (Nat.le_of_ble_eq_true rfl) rfl (Nat.le_of_ble_eq_true rfl) (by decide) (c_J0_charAt_5068e X 0 ((v3 * 8) + v5) I R J _ hq8 ⟨rfl, rfl⟩) ?_
  rintro _ _ ⟨rfl, rfl⟩
  show zy_V X M_X8_wordKind 5 P (66 + 3) [.ref v0, .int v1, .int v2, .int v3, .int v4, .int v5, .int s0] [.int q8] (I, R, J)
  refine zv_iload (pc := 69) d_X8_wordKind_69 rfl ?_
  rcases zw_ifE hf with ⟨c9, hf⟩ | ⟨c9, hf⟩
  · refine zv_icmp_ne (pc := 71) (tg := 77) d_X8_wordKind_71 (by decide) (fun _ => ?_) (fun q => absurd q c9)
    exact zx_weak (zw_leS (zw_leS (zw_leS (zw_leS (zw_leS (zw_leS (zw_leN zw_leZ))))))) (j_X8_wordKind_77_20_ok X P v0 v1 v2 v3 v4 v5 I R J _ hf hk)
  · refine zv_icmp_ne (pc := 71) (tg := 77) d_X8_wordKind_71 (by decide) (fun q => absurd q c9) (fun _ => ?_)
    obtain ⟨x11, ex11, hf⟩ := zw_letE hf
    refine zx_iinc (pc := 74) (x2 := x11) (L2 := [.ref v0, .int v1, .int v2, .int v3, .int x11, .int v5, .int s0]) d_X8_wordKind_74 (by decide) rfl zc_i_1 ex11 rfl ?_
    exact zx_weak (zw_leS (zw_leS (zw_leS (zw_leS (zw_leS (zw_leS (zw_leN zw_leZ))))))) (j_X8_wordKind_77_20_ok X P v0 v1 v2 v3 x11 v5 I R J _ hf hk)
def s_X8_wordKind_20 (v0 : Nat) (v1 : Int32) (v2 : Int32) (v3 : Int32) (I : zI) (R : zR) (s : Int32 × Int32) : Option ((Int32 × Int32) ⊕ (Int32)) :=
  if ¬ s.1 = s.2 then some (.inr s.1) else if 8 ≤ s.2 then some (.inr s.1) else if v2 ≤ (v1 + s.2) then j_X8_wordKind_55_20 v0 v1 v2 v3 s.1 s.2 32 I R else zw_g (zw_gc v0 8) ((f_X8_byteAt v0 (v1 + s.2) I R).bind fun q13 => (j_X8_wordKind_55_20 v0 v1 v2 v3 s.1 s.2 q13 I R))
theorem s_X8_wordKind_20_ok (X : zw_X) (P : Option Value → aS → Prop) (v0 : Nat) (v1 : Int32) (v2 : Int32) (v3 : Int32) (I : zI) (R : zR) (J : zJ) (s : Int32 × Int32) (o : (Int32 × Int32) ⊕ (Int32)) (hf : s_X8_wordKind_20 v0 v1 v2 v3 I R s = some o) (hk : (zw_se (fun t => zy_V X M_X8_wordKind 5 P 20 [.ref v0, .int v1, .int v2, .int v3, .int t.1, .int t.2, .null] [] (I, R, J)) (fun r => zy_V X M_X8_wordKind 5 P 83 [.ref v0, .int v1, .int v2, .int v3, .int r, .null, .null] [] (I, R, J)) o)) : zy_V X M_X8_wordKind 5 P 20 [.ref v0, .int v1, .int v2, .int v3, .int s.1, .int s.2, .null] [] (I, R, J) := by
  unfold s_X8_wordKind_20 at hf
  refine zv_iload (pc := 20) d_X8_wordKind_20 rfl ?_
  refine zv_iload (pc := 22) d_X8_wordKind_22 rfl ?_
  rcases zw_ifE hf with ⟨c4, hf⟩ | ⟨c4, hf⟩
  · refine zv_icmp_ne (pc := 24) (tg := 83) d_X8_wordKind_24 (by decide) (fun _ => ?_) (fun q => absurd q c4)
    cases hf
    exact zx_weak (zw_leS (zw_leS (zw_leS (zw_leS (zw_leS (zw_leN (zw_leN zw_leZ))))))) hk
  · refine zv_icmp_ne (pc := 24) (tg := 83) d_X8_wordKind_24 (by decide) (fun q => absurd q c4) (fun _ => ?_)
    refine zv_iload (pc := 27) d_X8_wordKind_27 rfl ?_
    refine zv_bipush (pc := 29) d_X8_wordKind_29 zc_b_8 ?_
    rcases zw_ifE hf with ⟨c5, hf⟩ | ⟨c5, hf⟩
    · refine zv_icmp_ge (pc := 31) (tg := 83) d_X8_wordKind_31 (by decide) (fun _ => ?_) (fun q => absurd c5 q)
      cases hf
      exact zx_weak (zw_leS (zw_leS (zw_leS (zw_leS (zw_leS (zw_leN (zw_leN zw_leZ))))))) hk
    · refine zv_icmp_ge (pc := 31) (tg := 83) d_X8_wordKind_31 (by decide) (fun q => absurd q c5) (fun _ => ?_)
      refine zv_iload_n (pc := 34) d_X8_wordKind_34 rfl ?_
      refine zv_iload (pc := 35) d_X8_wordKind_35 rfl ?_
      refine zv_iadd (pc := 37) d_X8_wordKind_37 ?_
      refine zv_iload_n (pc := 38) d_X8_wordKind_38 rfl ?_
      rcases zw_ifE hf with ⟨c6, hf⟩ | ⟨c6, hf⟩
      · refine zv_icmp_ge (pc := 39) (tg := 53) d_X8_wordKind_39 (by decide) (fun _ => ?_) (fun q => absurd c6 q)
        refine zv_bipush (pc := 53) d_X8_wordKind_53 zc_b_32 ?_
        exact zx_weak (zw_leS (zw_leS (zw_leS (zw_leS (zw_leS (zw_leS (zw_leN zw_leZ))))))) (j_X8_wordKind_55_20_ok X P v0 v1 v2 v3 s.1 s.2 32 I R J _ hf hk)
      · refine zv_icmp_ge (pc := 39) (tg := 53) d_X8_wordKind_39 (by decide) (fun q => absurd q c6) (fun _ => ?_)
        refine zv_aload_n (pc := 42) d_X8_wordKind_42 rfl ?_
        refine zv_iload_n (pc := 43) d_X8_wordKind_43 rfl ?_
        refine zv_iload (pc := 44) d_X8_wordKind_44 rfl ?_
        refine zv_iadd (pc := 46) d_X8_wordKind_46 ?_
        obtain ⟨g12, hf⟩ := zw_gcE hf (by decide)
        obtain ⟨q13, hq13, hf⟩ := zw_bdE hf
        refine zx_callV (pc := 47) (As := [.int (v1 + s.2)]) (o := v0) (st := []) (d2 := 0) (M2 := M_X8_byteAt) (P2 := (fun r S => r = (some (.int q13)) ∧ S = (I, R, J))) d_X8_wordKind_47 (zw_mG (List.mem_of_getElem? (i := 545) (by decide +kernel)) rfl) ce_X8_byteAt (zw_RvK g12 rfl rfl) (Nat.le_of_ble_eq_true rfl) rfl (Nat.le_of_ble_eq_true rfl) (by decide) (c_X8_byteAt X v0 (v1 + s.2) I R J _ hq13 ⟨rfl, rfl⟩) ?_
        rintro _ _ ⟨rfl, rfl⟩
        show zy_V X M_X8_wordKind 5 P (47 + 3) [.ref v0, .int v1, .int v2, .int v3, .int s.1, .int s.2, .null] [.int q13] (I, R, J)
        refine zv_goto (pc := 50) (tg := 55) d_X8_wordKind_50 (by decide) ?_
        exact zx_weak (zw_leS (zw_leS (zw_leS (zw_leS (zw_leS (zw_leS (zw_leN zw_leZ))))))) (j_X8_wordKind_55_20_ok X P v0 v1 v2 v3 s.1 s.2 q13 I R J _ hf hk)
theorem s_X8_wordKind_20_lp (X : zw_X) (P : Option Value → aS → Prop) (v0 : Nat) (v1 : Int32) (v2 : Int32) (v3 : Int32) (I : zI) (R : zR) (J : zJ) (n : Nat) (s : Int32 × Int32) (r : Int32) (h : zw_it (s_X8_wordKind_20 v0 v1 v2 v3 I R) n s = some r) (hq : zy_V X M_X8_wordKind 5 P 83 [.ref v0, .int v1, .int v2, .int v3, .int r, .null, .null] [] (I, R, J)) : zy_V X M_X8_wordKind 5 P 20 [.ref v0, .int v1, .int v2, .int v3, .int s.1, .int s.2, .null] [] (I, R, J) :=
  zw_itE (A := (fun t : Int32 × Int32 => zy_V X M_X8_wordKind 5 P 20 [.ref v0, .int v1, .int v2, .int v3, .int t.1, .int t.2, .null] [] (I, R, J))) (Q := (fun r : Int32 => zy_V X M_X8_wordKind 5 P 83 [.ref v0, .int v1, .int v2, .int v3, .int r, .null, .null] [] (I, R, J))) (fun s o h1 h2 => s_X8_wordKind_20_ok X P v0 v1 v2 v3 I R J s o h1 h2) n s r h hq
def j_X8_wordKind_83_2 (v0 : Nat) (v1 : Int32) (v2 : Int32) (v3 : Int32) (v4 : Int32) (I : zI) (R : zR) : Option ((Int32) ⊕ ((Unit) ⊕ (Int32))) :=
  if ¬ v4 = 8 then zw_let (v3 + 1 : Int32) fun x16 => (some (.inl x16)) else some (.inr (.inr v3))
theorem j_X8_wordKind_83_2_ok (X : zw_X) (P : Option Value → aS → Prop) (v0 : Nat) (v1 : Int32) (v2 : Int32) (v3 : Int32) (v4 : Int32) (I : zI) (R : zR) (J : zJ) (o : (Int32) ⊕ ((Unit) ⊕ (Int32))) (hf : j_X8_wordKind_83_2 v0 v1 v2 v3 v4 I R = some o) (hk : (zw_se (fun t => zy_V X M_X8_wordKind 5 P 2 [.ref v0, .int v1, .int v2, .int t, .null, .null, .null] [] (I, R, J)) (fun r => (zw_se (fun r0 => zy_V X M_X8_wordKind 5 P 101 [.null, .null, .null, .null, .null, .null, .null] [] (I, R, J)) (fun t0 => zy_V X M_X8_wordKind 5 P 90 [.null, .null, .null, .int t0, .null, .null, .null] [] (I, R, J)) r)) o)) : zy_V X M_X8_wordKind 5 P 83 [.ref v0, .int v1, .int v2, .int v3, .int v4, .null, .null] [] (I, R, J) := by
  unfold j_X8_wordKind_83_2 at hf
  refine zv_iload (pc := 83) d_X8_wordKind_83 rfl ?_
  refine zv_bipush (pc := 85) d_X8_wordKind_85 zc_b_8 ?_
  rcases zw_ifE hf with ⟨c15, hf⟩ | ⟨c15, hf⟩
  · refine zv_icmp_ne (pc := 87) (tg := 95) d_X8_wordKind_87 (by decide) (fun _ => ?_) (fun q => absurd q c15)
    obtain ⟨x16, ex16, hf⟩ := zw_letE hf
    refine zx_iinc (pc := 95) (x2 := x16) (L2 := [.ref v0, .int v1, .int v2, .int x16, .int v4, .null, .null]) d_X8_wordKind_95 (by decide) rfl zc_i_1 ex16 rfl ?_
    refine zv_goto (pc := 98) (tg := 2) d_X8_wordKind_98 (by decide) ?_
    cases hf
    exact zx_weak (zw_leS (zw_leS (zw_leS (zw_leS (zw_leN (zw_leN (zw_leN zw_leZ))))))) hk
  · refine zv_icmp_ne (pc := 87) (tg := 95) d_X8_wordKind_87 (by decide) (fun q => absurd q c15) (fun _ => ?_)
    cases hf
    exact zx_weak (zw_leN (zw_leN (zw_leN (zw_leS (zw_leN (zw_leN (zw_leN zw_leZ))))))) hk
def s_X8_wordKind_2 (v0 : Nat) (v1 : Int32) (v2 : Int32) (I : zI) (R : zR) (s : Int32) : Option ((Int32) ⊕ ((Unit) ⊕ (Int32))) :=
  zw_g (decide (0 < 3)) ((f_J0_length_8abf5 0).bind fun q2 => (if (q2 / 8) ≤ s then some (.inr (.inl ())) else (zw_it (s_X8_wordKind_20 v0 v1 v2 s I R) 1000000 (0, 0)).bind fun q14 => (j_X8_wordKind_83_2 v0 v1 v2 s q14 I R)))
theorem s_X8_wordKind_2_ok (X : zw_X) (P : Option Value → aS → Prop) (v0 : Nat) (v1 : Int32) (v2 : Int32) (I : zI) (R : zR) (J : zJ) (s : Int32) (o : (Int32) ⊕ ((Unit) ⊕ (Int32))) (hf : s_X8_wordKind_2 v0 v1 v2 I R s = some o) (hk : (zw_se (fun t => zy_V X M_X8_wordKind 5 P 2 [.ref v0, .int v1, .int v2, .int t, .null, .null, .null] [] (I, R, J)) (fun r => (zw_se (fun r0 => zy_V X M_X8_wordKind 5 P 101 [.null, .null, .null, .null, .null, .null, .null] [] (I, R, J)) (fun t0 => zy_V X M_X8_wordKind 5 P 90 [.null, .null, .null, .int t0, .null, .null, .null] [] (I, R, J)) r)) o)) : zy_V X M_X8_wordKind 5 P 2 [.ref v0, .int v1, .int v2, .int s, .null, .null, .null] [] (I, R, J) := by
  unfold s_X8_wordKind_2 at hf
  refine zv_iload_n (pc := 2) d_X8_wordKind_2 rfl ?_
  refine zv_ldcS (pc := 3) (a := 0) d_X8_wordKind_3 (by decide) rfl rfl ?_
  obtain ⟨g1, hf⟩ := zw_gE hf
  have g1 := of_decide_eq_true g1
  obtain ⟨q2, hq2, hf⟩ := zw_bdE hf
  refine zx_callV (pc := 5) (As := []) (o := (1006 + 0)) (st := [.int s]) (d2 := 1) (M2 := M_J0_length_8abf5) (P2 := (fun r S => r = (some (.int q2)) ∧ S = (I, R, J))) d_X8_wordKind_5 (zw_mG (List.mem_of_getElem? (i := 568) (by decide +kernel)) rfl) ce_J0_length_8abf5 (Or.inr ⟨rfl, 0, g1, rfl⟩) (Nat.le_of_ble_eq_true rfl) rfl (Nat.le_of_ble_eq_true rfl) (by decide) (c_J0_length_8abf5 X 0 I R J _ hq2 ⟨rfl, rfl⟩) ?_
  rintro _ _ ⟨rfl, rfl⟩
  show zy_V X M_X8_wordKind 5 P (5 + 3) [.ref v0, .int v1, .int v2, .int s, .null, .null, .null] [.int q2, .int s] (I, R, J)
  refine zv_bipush (pc := 8) d_X8_wordKind_8 zc_b_8 ?_
  refine zv_idiv (pc := 10) d_X8_wordKind_10 (by decide +kernel) ?_
  rcases zw_ifE hf with ⟨c3, hf⟩ | ⟨c3, hf⟩
  · refine zv_icmp_ge (pc := 11) (tg := 101) d_X8_wordKind_11 (by decide) (fun _ => ?_) (fun q => absurd c3 q)
    cases hf
    exact zx_weak (zw_leN (zw_leN (zw_leN (zw_leN (zw_leN (zw_leN (zw_leN zw_leZ))))))) hk
  · refine zv_icmp_ge (pc := 11) (tg := 101) d_X8_wordKind_11 (by decide) (fun q => absurd q c3) (fun _ => ?_)
    refine zv_iconst (pc := 14) d_X8_wordKind_14 zc_i_0 ?_
    refine zx_istore (pc := 15) (x2 := 0) (L2 := [.ref v0, .int v1, .int v2, .int s, .int 0, .null, .null]) d_X8_wordKind_15 (by decide) rfl rfl ?_
    refine zv_iconst (pc := 17) d_X8_wordKind_17 zc_i_0 ?_
    refine zx_istore (pc := 18) (x2 := 0) (L2 := [.ref v0, .int v1, .int v2, .int s, .int 0, .int 0, .null]) d_X8_wordKind_18 (by decide) rfl rfl ?_
    obtain ⟨q14, hq14, hf⟩ := zw_bdE hf
    refine zx_weak (L' := [.ref v0, .int v1, .int v2, .int s, .int 0, .int 0, .null]) (zw_leS (zw_leS (zw_leS (zw_leS (zw_leS (zw_leS (zw_leN zw_leZ))))))) (s_X8_wordKind_20_lp X P v0 v1 v2 s I R J _ _ _ hq14 ?_)
    show zy_V X M_X8_wordKind 5 P 83 [.ref v0, .int v1, .int v2, .int s, .int q14, .null, .null] [] (I, R, J)
    exact zx_weak (zw_leS (zw_leS (zw_leS (zw_leS (zw_leS (zw_leN (zw_leN zw_leZ))))))) (j_X8_wordKind_83_2_ok X P v0 v1 v2 s q14 I R J _ hf hk)
theorem s_X8_wordKind_2_lp (X : zw_X) (P : Option Value → aS → Prop) (v0 : Nat) (v1 : Int32) (v2 : Int32) (I : zI) (R : zR) (J : zJ) (n : Nat) (s : Int32) (r : (Unit) ⊕ (Int32)) (h : zw_it (s_X8_wordKind_2 v0 v1 v2 I R) n s = some r) (hq : (zw_se (fun r0 => zy_V X M_X8_wordKind 5 P 101 [.null, .null, .null, .null, .null, .null, .null] [] (I, R, J)) (fun t0 => zy_V X M_X8_wordKind 5 P 90 [.null, .null, .null, .int t0, .null, .null, .null] [] (I, R, J)) r)) : zy_V X M_X8_wordKind 5 P 2 [.ref v0, .int v1, .int v2, .int s, .null, .null, .null] [] (I, R, J) :=
  zw_itE (A := (fun t : Int32 => zy_V X M_X8_wordKind 5 P 2 [.ref v0, .int v1, .int v2, .int t, .null, .null, .null] [] (I, R, J))) (Q := (fun r : (Unit) ⊕ (Int32) => (zw_se (fun r0 => zy_V X M_X8_wordKind 5 P 101 [.null, .null, .null, .null, .null, .null, .null] [] (I, R, J)) (fun t0 => zy_V X M_X8_wordKind 5 P 90 [.null, .null, .null, .int t0, .null, .null, .null] [] (I, R, J)) r))) (fun s o h1 h2 => s_X8_wordKind_2_ok X P v0 v1 v2 I R J s o h1 h2) n s r h hq
def f_X8_wordKind (v0 : Nat) (v1 : Int32) (v2 : Int32) (I : zI) (R : zR) : Option (Int32) :=
  (zw_it (s_X8_wordKind_2 v0 v1 v2 I R) 1000000 0).bind fun q17 => (match q17 with | .inl a18 => (some 2) | .inr a19 => (some (18 + a19)))
theorem c_X8_wordKind (X : zw_X) (v0 : Nat) (v1 : Int32) (v2 : Int32) (I : zI) (R : zR) (J : zJ) {P : Option Value → aS → Prop} (o : Int32) (hf : f_X8_wordKind v0 v1 v2 I R = some o) (hk : P (some (.int o)) (I, R, J)) : zw_C X M_X8_wordKind 5 0 0 199 [.ref v0, .int v1, .int v2] (I, R, J) P := by
  show zy_V X M_X8_wordKind 5 P 0 [.ref v0, .int v1, .int v2, .null, .null, .null, .null] [] (I, R, J)
  unfold f_X8_wordKind at hf
  refine zv_iconst (pc := 0) d_X8_wordKind_0 zc_i_0 ?_
  refine zx_istore_n (pc := 1) (x2 := 0) (L2 := [.ref v0, .int v1, .int v2, .int 0, .null, .null, .null]) d_X8_wordKind_1 (by decide) rfl rfl ?_
  obtain ⟨q17, hq17, hf⟩ := zw_bdE hf
  refine zx_weak (L' := [.ref v0, .int v1, .int v2, .int 0, .null, .null, .null]) (zw_leS (zw_leS (zw_leS (zw_leS (zw_leN (zw_leN (zw_leN zw_leZ))))))) (s_X8_wordKind_2_lp X P v0 v1 v2 I R J _ _ _ hq17 ?_)
  rcases q17 with a18 | a19
  ·
    show zy_V X M_X8_wordKind 5 P 101 [.null, .null, .null, .null, .null, .null, .null] [] (I, R, J)
    refine zv_iconst (pc := 101) d_X8_wordKind_101 zc_i_2 ?_
    cases hf
    exact zx_iret (pc := 102) d_X8_wordKind_102 rfl hk
  ·
    show zy_V X M_X8_wordKind 5 P 90 [.null, .null, .null, .int a19, .null, .null, .null] [] (I, R, J)
    refine zv_bipush (pc := 90) d_X8_wordKind_90 zc_b_18 ?_
    refine zv_iload_n (pc := 92) d_X8_wordKind_92 rfl ?_
    refine zv_iadd (pc := 93) d_X8_wordKind_93 ?_
    cases hf
    exact zx_iret (pc := 94) d_X8_wordKind_94 rfl hk
abbrev M_J0_indexOf_0f7a4 : zw_M := (⟨"java/lang/String", "indexOf", "(I)I"⟩, prog_17_method_79_code, 2, (Option.some Jvm.ClassFile.FieldType.int))
theorem d_J0_indexOf_0f7a4_0 : decode M_J0_indexOf_0f7a4.2.1 0 = .ok (.aload_n 0, 1) := by decide +kernel
theorem d_J0_indexOf_0f7a4_1 : decode M_J0_indexOf_0f7a4.2.1 1 = .ok (.iload_n 1, 1) := by decide +kernel
theorem d_J0_indexOf_0f7a4_2 : decode M_J0_indexOf_0f7a4.2.1 2 = .ok (.iconst 0, 1) := by decide +kernel
theorem d_J0_indexOf_0f7a4_3 : decode M_J0_indexOf_0f7a4.2.1 3 = .ok (.invokevirtual 633, 3) := by decide +kernel
theorem d_J0_indexOf_0f7a4_6 : decode M_J0_indexOf_0f7a4.2.1 6 = .ok (.ireturn, 1) := by decide +kernel
theorem ce_J0_indexOf_0f7a4 : zw_CeV M_J0_indexOf_0f7a4 1 := ⟨⟨⟨by decide +kernel, by decide +kernel, by decide +kernel⟩, (zw_mG (List.mem_of_getElem? (i := 632) (by decide +kernel)) rfl), (zw_mG (List.mem_of_getElem? (i := 109) (by decide +kernel)) rfl), by decide, by decide +kernel⟩, (zw_mG (List.mem_of_getElem? (i := 630) (by decide +kernel)) rfl), (zw_mG (List.mem_of_getElem? (i := 631) (by decide +kernel)) rfl)⟩
def f_J0_indexOf_0f7a4 (v0 : Nat) (v1 : Int32)  : Option (Int32) :=
  zw_g (decide (v0 < 3)) ((f_J0_indexOf_7cf53 v0 v1 0).bind fun q2 => (some q2))
theorem c_J0_indexOf_0f7a4 (X : zw_X) (v0 : Nat) (v1 : Int32) (I : zI) (R : zR) (J : zJ) {P : Option Value → aS → Prop} (o : Int32) (hf : f_J0_indexOf_0f7a4 v0 v1  = some o) (hk : P (some (.int o)) (I, R, J)) : zw_C X M_J0_indexOf_0f7a4 6 0 0 199 [.ref (1006 + v0), .int v1] (I, R, J) P := by
  show zy_V X M_J0_indexOf_0f7a4 6 P 0 [.ref (1006 + v0), .int v1] [] (I, R, J)
  unfold f_J0_indexOf_0f7a4 at hf
  refine zv_aload_n (pc := 0) d_J0_indexOf_0f7a4_0 rfl ?_
  refine zv_iload_n (pc := 1) d_J0_indexOf_0f7a4_1 rfl ?_
  refine zv_iconst (pc := 2) d_J0_indexOf_0f7a4_2 zc_i_0 ?_
  obtain ⟨g1, hf⟩ := zw_gE hf
  have g1 := of_decide_eq_true g1
  obtain ⟨q2, hq2, hf⟩ := zw_bdE hf
  refine zx_callV (pc := 3) (As := [.int v1, .int 0]) (o := (1006 + v0)) (st := []) (d2 := 5) (M2 := M_J0_indexOf_7cf53) (P2 := (fun r S => r = (some (.int q2)) ∧ S = (I, R, J))) d_J0_indexOf_0f7a4_3 (zw_mG (List.mem_of_getElem? (i := 633) (by decide +kernel)) rfl) ce_J0_indexOf_7cf53 (Or.inr ⟨rfl, v0, g1, rfl⟩) (Nat.le_of_ble_eq_true rfl) rfl (Nat.le_of_ble_eq_true rfl) (by decide) (c_J0_indexOf_7cf53 X v0 v1 0 I R J _ hq2 ⟨rfl, rfl⟩) ?_
  rintro _ _ ⟨rfl, rfl⟩
  show zy_V X M_J0_indexOf_0f7a4 6 P (3 + 3) [.ref (1006 + v0), .int v1] [.int q2] (I, R, J)
  cases hf
  exact zx_iret (pc := 6) d_J0_indexOf_0f7a4_6 rfl hk
abbrev M_X10_barred : zw_M := (⟨"CutStones", "barred", "(II)I"⟩, prog_1_method_25_code, 3, (Option.some Jvm.ClassFile.FieldType.int))
theorem d_X10_barred_0 : decode M_X10_barred.2.1 0 = .ok (.aload_n 0, 1) := by decide +kernel
theorem d_X10_barred_1 : decode M_X10_barred.2.1 1 = .ok (.iload_n 1, 1) := by decide +kernel
theorem d_X10_barred_2 : decode M_X10_barred.2.1 2 = .ok (.invokevirtual 149, 3) := by decide +kernel
theorem d_X10_barred_5 : decode M_X10_barred.2.1 5 = .ok (.ifCond .eq 23, 3) := by decide +kernel
theorem d_X10_barred_8 : decode M_X10_barred.2.1 8 = .ok (.aload_n 0, 1) := by decide +kernel
theorem d_X10_barred_9 : decode M_X10_barred.2.1 9 = .ok (.getfield 71, 3) := by decide +kernel
theorem d_X10_barred_12 : decode M_X10_barred.2.1 12 = .ok (.iload_n 2, 1) := by decide +kernel
theorem d_X10_barred_13 : decode M_X10_barred.2.1 13 = .ok (.invokevirtual 247, 3) := by decide +kernel
theorem d_X10_barred_16 : decode M_X10_barred.2.1 16 = .ok (.ifCond .eq 12, 3) := by decide +kernel
theorem d_X10_barred_19 : decode M_X10_barred.2.1 19 = .ok (.aload_n 0, 1) := by decide +kernel
theorem d_X10_barred_20 : decode M_X10_barred.2.1 20 = .ok (.iload_n 1, 1) := by decide +kernel
theorem d_X10_barred_21 : decode M_X10_barred.2.1 21 = .ok (.iload_n 2, 1) := by decide +kernel
theorem d_X10_barred_22 : decode M_X10_barred.2.1 22 = .ok (.invokevirtual 250, 3) := by decide +kernel
theorem d_X10_barred_25 : decode M_X10_barred.2.1 25 = .ok (.goto 4, 3) := by decide +kernel
theorem d_X10_barred_28 : decode M_X10_barred.2.1 28 = .ok (.iconst (-1), 1) := by decide +kernel
theorem d_X10_barred_29 : decode M_X10_barred.2.1 29 = .ok (.ireturn, 1) := by decide +kernel
theorem ce_X10_barred : zw_CeV M_X10_barred 2 := ⟨⟨⟨by decide +kernel, by decide +kernel, by decide +kernel⟩, (zw_mG (List.mem_of_getElem? (i := 1101) (by decide +kernel)) rfl), (zw_mG (List.mem_of_getElem? (i := 96) (by decide +kernel)) rfl), by decide, by decide +kernel⟩, (zw_mG (List.mem_of_getElem? (i := 1099) (by decide +kernel)) rfl), (zw_mG (List.mem_of_getElem? (i := 1100) (by decide +kernel)) rfl)⟩
def f_X10_barred (v0 : Nat) (v1 : Int32) (v2 : Int32) (I : zI) (R : zR) : Option (Int32 × zI) :=
  zw_g (zw_gc v0 10) ((f_X10_isStuff v0 v1 I R).bind fun q2 => (if q2 = 0 then some ((-1), I) else zw_g (zw_gc (R v0 11) 9) ((f_X9_hasFirst (R v0 11) v2 I).bind fun q5 => (if q5 = 0 then some ((-1), I) else (f_X10_barringTest v0 v1 v2 I R).bind fun q7 => (some (q7.1, q7.2))))))
theorem c_X10_barred (X : zw_X) (v0 : Nat) (v1 : Int32) (v2 : Int32) (I : zI) (R : zR) (J : zJ) {P : Option Value → aS → Prop} (o : Int32 × zI) (hf : f_X10_barred v0 v1 v2 I R = some o) (hk : P (some (.int o.1)) (o.2, R, J)) : zw_C X M_X10_barred 6 0 0 199 [.ref v0, .int v1, .int v2] (I, R, J) P := by
  show zy_V X M_X10_barred 6 P 0 [.ref v0, .int v1, .int v2] [] (I, R, J)
  unfold f_X10_barred at hf
  refine zv_aload_n (pc := 0) d_X10_barred_0 rfl ?_
  refine zv_iload_n (pc := 1) d_X10_barred_1 rfl ?_
  obtain ⟨g1, hf⟩ := zw_gcE hf (by decide)
  obtain ⟨q2, hq2, hf⟩ := zw_bdE hf
  refine zx_callV (pc := 2) (As := [.int v1]) (o := v0) (st := []) (d2 := 0) (M2 := M_X10_isStuff) (P2 := (fun r S => r = (some (.int q2)) ∧ S = (I, R, J))) d_X10_barred_2 (zw_mG (List.mem_of_getElem? (i := 880) (by decide +kernel)) rfl) ce_X10_isStuff (zw_RvK g1 rfl rfl) (Nat.le_of_ble_eq_true rfl) rfl (Nat.le_of_ble_eq_true rfl) (by decide) (c_X10_isStuff X v0 v1 I R J _ hq2 ⟨rfl, rfl⟩) ?_
  rintro _ _ ⟨rfl, rfl⟩
  show zy_V X M_X10_barred 6 P (2 + 3) [.ref v0, .int v1, .int v2] [.int q2] (I, R, J)
  rcases zw_ifE hf with ⟨c3, hf⟩ | ⟨c3, hf⟩
  · refine zv_if_eq (pc := 5) (tg := 28) d_X10_barred_5 (by decide) (fun _ => ?_) (fun q => absurd c3 q)
    refine zv_iconst (pc := 28) d_X10_barred_28 zc_i_m1 ?_
    cases hf
    exact zx_iret (pc := 29) d_X10_barred_29 rfl hk
  · refine zv_if_eq (pc := 5) (tg := 28) d_X10_barred_5 (by decide) (fun q => absurd q c3) (fun _ => ?_)
    refine zv_aload_n (pc := 8) d_X10_barred_8 rfl ?_
    obtain ⟨g4, hf⟩ := zw_gcE hf (by decide)
    refine zx_getR (pc := 9) d_X10_barred_9 lk_CutStones_71 (by decide) g1 g4 ?_
    refine zv_iload_n (pc := 12) d_X10_barred_12 rfl ?_
    obtain ⟨q5, hq5, hf⟩ := zw_bdE hf
    refine zx_callV (pc := 13) (As := [.int v2]) (o := (R v0 11)) (st := []) (d2 := 0) (M2 := M_X9_hasFirst) (P2 := (fun r S => r = (some (.int q5)) ∧ S = (I, R, J))) d_X10_barred_13 (zw_mG (List.mem_of_getElem? (i := 1102) (by decide +kernel)) rfl) ce_X9_hasFirst (zw_RvK g4 rfl rfl) (Nat.le_of_ble_eq_true rfl) rfl (Nat.le_of_ble_eq_true rfl) (by decide) (c_X9_hasFirst X (R v0 11) v2 I R J _ hq5 ⟨rfl, rfl⟩) ?_
    rintro _ _ ⟨rfl, rfl⟩
    show zy_V X M_X10_barred 6 P (13 + 3) [.ref v0, .int v1, .int v2] [.int q5] (I, R, J)
    rcases zw_ifE hf with ⟨c6, hf⟩ | ⟨c6, hf⟩
    · refine zv_if_eq (pc := 16) (tg := 28) d_X10_barred_16 (by decide) (fun _ => ?_) (fun q => absurd c6 q)
      refine zv_iconst (pc := 28) d_X10_barred_28 zc_i_m1 ?_
      cases hf
      exact zx_iret (pc := 29) d_X10_barred_29 rfl hk
    · refine zv_if_eq (pc := 16) (tg := 28) d_X10_barred_16 (by decide) (fun q => absurd q c6) (fun _ => ?_)
      refine zv_aload_n (pc := 19) d_X10_barred_19 rfl ?_
      refine zv_iload_n (pc := 20) d_X10_barred_20 rfl ?_
      refine zv_iload_n (pc := 21) d_X10_barred_21 rfl ?_
      obtain ⟨q7, hq7, hf⟩ := zw_bdE hf
      refine zx_callV (pc := 22) (As := [.int v1, .int v2]) (o := v0) (st := []) (d2 := 5) (M2 := M_X10_barringTest) (P2 := (fun r S => r = (some (.int q7.1)) ∧ S = (q7.2, R, J))) d_X10_barred_22 (zw_mG (List.mem_of_getElem? (i := 1106) (by decide +kernel)) rfl) ce_X10_barringTest (zw_RvK g1 rfl rfl) (Nat.le_of_ble_eq_true rfl) rfl (Nat.le_of_ble_eq_true rfl) (by decide) (c_X10_barringTest X v0 v1 v2 I R J _ hq7 ⟨rfl, rfl⟩) ?_
      rintro _ _ ⟨rfl, rfl⟩
      show zy_V X M_X10_barred 6 P (22 + 3) [.ref v0, .int v1, .int v2] [.int q7.1] (q7.2, R, J)
      refine zv_goto (pc := 25) (tg := 29) d_X10_barred_25 (by decide) ?_
      cases hf
      exact zx_iret (pc := 29) d_X10_barred_29 rfl hk
abbrev M_X10_dearest : zw_M := (⟨"CutStones", "dearest", "(III)I"⟩, prog_1_method_19_code, 6, (Option.some Jvm.ClassFile.FieldType.int))
theorem d_X10_dearest_0 : decode M_X10_dearest.2.1 0 = .ok (.aload_n 0, 1) := by decide +kernel
theorem d_X10_dearest_1 : decode M_X10_dearest.2.1 1 = .ok (.iload_n 1, 1) := by decide +kernel
theorem d_X10_dearest_2 : decode M_X10_dearest.2.1 2 = .ok (.invokevirtual 218, 3) := by decide +kernel
theorem d_X10_dearest_5 : decode M_X10_dearest.2.1 5 = .ok (.ifCond .eq 19, 3) := by decide +kernel
theorem d_X10_dearest_8 : decode M_X10_dearest.2.1 8 = .ok (.aload_n 0, 1) := by decide +kernel
theorem d_X10_dearest_9 : decode M_X10_dearest.2.1 9 = .ok (.iload_n 2, 1) := by decide +kernel
theorem d_X10_dearest_10 : decode M_X10_dearest.2.1 10 = .ok (.invokevirtual 208, 3) := by decide +kernel
theorem d_X10_dearest_13 : decode M_X10_dearest.2.1 13 = .ok (.ifCond .eq 11, 3) := by decide +kernel
theorem d_X10_dearest_16 : decode M_X10_dearest.2.1 16 = .ok (.aload_n 0, 1) := by decide +kernel
theorem d_X10_dearest_17 : decode M_X10_dearest.2.1 17 = .ok (.iload_n 3, 1) := by decide +kernel
theorem d_X10_dearest_18 : decode M_X10_dearest.2.1 18 = .ok (.invokevirtual 149, 3) := by decide +kernel
theorem d_X10_dearest_21 : decode M_X10_dearest.2.1 21 = .ok (.ifCond .ne 5, 3) := by decide +kernel
theorem d_X10_dearest_24 : decode M_X10_dearest.2.1 24 = .ok (.iconst (-1), 1) := by decide +kernel
theorem d_X10_dearest_25 : decode M_X10_dearest.2.1 25 = .ok (.ireturn, 1) := by decide +kernel
theorem d_X10_dearest_26 : decode M_X10_dearest.2.1 26 = .ok (.aload_n 0, 1) := by decide +kernel
theorem d_X10_dearest_27 : decode M_X10_dearest.2.1 27 = .ok (.iload_n 1, 1) := by decide +kernel
theorem d_X10_dearest_28 : decode M_X10_dearest.2.1 28 = .ok (.iload_n 3, 1) := by decide +kernel
theorem d_X10_dearest_29 : decode M_X10_dearest.2.1 29 = .ok (.invokevirtual 221, 3) := by decide +kernel
theorem d_X10_dearest_32 : decode M_X10_dearest.2.1 32 = .ok (.aload_n 0, 1) := by decide +kernel
theorem d_X10_dearest_33 : decode M_X10_dearest.2.1 33 = .ok (.getfield 65, 3) := by decide +kernel
theorem d_X10_dearest_36 : decode M_X10_dearest.2.1 36 = .ok (.iconst (-1), 1) := by decide +kernel
theorem d_X10_dearest_37 : decode M_X10_dearest.2.1 37 = .ok (.invokestatic 82, 3) := by decide +kernel
theorem d_X10_dearest_40 : decode M_X10_dearest.2.1 40 = .ok (.aload_n 0, 1) := by decide +kernel
theorem d_X10_dearest_41 : decode M_X10_dearest.2.1 41 = .ok (.getfield 26, 3) := by decide +kernel
theorem d_X10_dearest_44 : decode M_X10_dearest.2.1 44 = .ok (.getfield 211, 3) := by decide +kernel
theorem d_X10_dearest_47 : decode M_X10_dearest.2.1 47 = .ok (.iload_n 2, 1) := by decide +kernel
theorem d_X10_dearest_48 : decode M_X10_dearest.2.1 48 = .ok (.aaload, 1) := by decide +kernel
theorem d_X10_dearest_49 : decode M_X10_dearest.2.1 49 = .ok (.astore 4, 2) := by decide +kernel
theorem d_X10_dearest_51 : decode M_X10_dearest.2.1 51 = .ok (.aload_n 0, 1) := by decide +kernel
theorem d_X10_dearest_52 : decode M_X10_dearest.2.1 52 = .ok (.iload_n 1, 1) := by decide +kernel
theorem d_X10_dearest_53 : decode M_X10_dearest.2.1 53 = .ok (.aload 4, 2) := by decide +kernel
theorem d_X10_dearest_55 : decode M_X10_dearest.2.1 55 = .ok (.iconst 0, 1) := by decide +kernel
theorem d_X10_dearest_56 : decode M_X10_dearest.2.1 56 = .ok (.aload 4, 2) := by decide +kernel
theorem d_X10_dearest_58 : decode M_X10_dearest.2.1 58 = .ok (.getfield 224, 3) := by decide +kernel
theorem d_X10_dearest_61 : decode M_X10_dearest.2.1 61 = .ok (.invokevirtual 225, 3) := by decide +kernel
theorem d_X10_dearest_64 : decode M_X10_dearest.2.1 64 = .ok (.istore 5, 2) := by decide +kernel
theorem d_X10_dearest_66 : decode M_X10_dearest.2.1 66 = .ok (.iload 5, 2) := by decide +kernel
theorem d_X10_dearest_68 : decode M_X10_dearest.2.1 68 = .ok (.iconst (-1), 1) := by decide +kernel
theorem d_X10_dearest_69 : decode M_X10_dearest.2.1 69 = .ok (.if_icmp .ne 6, 3) := by decide +kernel
theorem d_X10_dearest_72 : decode M_X10_dearest.2.1 72 = .ok (.bipush (-2), 2) := by decide +kernel
theorem d_X10_dearest_74 : decode M_X10_dearest.2.1 74 = .ok (.ireturn, 1) := by decide +kernel
theorem d_X10_dearest_75 : decode M_X10_dearest.2.1 75 = .ok (.aload_n 0, 1) := by decide +kernel
theorem d_X10_dearest_76 : decode M_X10_dearest.2.1 76 = .ok (.iconst 1, 1) := by decide +kernel
theorem d_X10_dearest_77 : decode M_X10_dearest.2.1 77 = .ok (.iload 5, 2) := by decide +kernel
theorem d_X10_dearest_79 : decode M_X10_dearest.2.1 79 = .ok (.aload_n 0, 1) := by decide +kernel
theorem d_X10_dearest_80 : decode M_X10_dearest.2.1 80 = .ok (.getfield 26, 3) := by decide +kernel
theorem d_X10_dearest_83 : decode M_X10_dearest.2.1 83 = .ok (.getfield 141, 3) := by decide +kernel
theorem d_X10_dearest_86 : decode M_X10_dearest.2.1 86 = .ok (.iload 5, 2) := by decide +kernel
theorem d_X10_dearest_88 : decode M_X10_dearest.2.1 88 = .ok (.aaload, 1) := by decide +kernel
theorem d_X10_dearest_89 : decode M_X10_dearest.2.1 89 = .ok (.aload 4, 2) := by decide +kernel
theorem d_X10_dearest_91 : decode M_X10_dearest.2.1 91 = .ok (.iconst 0, 1) := by decide +kernel
theorem d_X10_dearest_92 : decode M_X10_dearest.2.1 92 = .ok (.aload 4, 2) := by decide +kernel
theorem d_X10_dearest_94 : decode M_X10_dearest.2.1 94 = .ok (.getfield 224, 3) := by decide +kernel
theorem d_X10_dearest_97 : decode M_X10_dearest.2.1 97 = .ok (.invokestatic 229, 3) := by decide +kernel
theorem d_X10_dearest_100 : decode M_X10_dearest.2.1 100 = .ok (.invokevirtual 233, 3) := by decide +kernel
theorem d_X10_dearest_103 : decode M_X10_dearest.2.1 103 = .ok (.aload_n 0, 1) := by decide +kernel
theorem d_X10_dearest_104 : decode M_X10_dearest.2.1 104 = .ok (.getfield 61, 3) := by decide +kernel
theorem d_X10_dearest_107 : decode M_X10_dearest.2.1 107 = .ok (.iload 5, 2) := by decide +kernel
theorem d_X10_dearest_109 : decode M_X10_dearest.2.1 109 = .ok (.iaload, 1) := by decide +kernel
theorem d_X10_dearest_110 : decode M_X10_dearest.2.1 110 = .ok (.ireturn, 1) := by decide +kernel
theorem ce_X10_dearest : zw_CeV M_X10_dearest 3 := ⟨⟨⟨by decide +kernel, by decide +kernel, by decide +kernel⟩, (zw_mG (List.mem_of_getElem? (i := 1045) (by decide +kernel)) rfl), (zw_mG (List.mem_of_getElem? (i := 96) (by decide +kernel)) rfl), by decide, by decide +kernel⟩, (zw_mG (List.mem_of_getElem? (i := 1043) (by decide +kernel)) rfl), (zw_mG (List.mem_of_getElem? (i := 1044) (by decide +kernel)) rfl)⟩
def f_X10_dearest (v0 : Nat) (v1 : Int32) (v2 : Int32) (v3 : Int32) (I : zI) (R : zR) : Option (Int32 × zI) :=
  zw_g (zw_gc v0 10) ((f_X10_areCuts v0 v1 I R).bind fun q2 => (if q2 = 0 then some ((-1), I) else (f_X10_isRough v0 v2 I R).bind fun q4 => (if q4 = 0 then some ((-1), I) else (f_X10_isStuff v0 v3 I R).bind fun q6 => (if ¬ q6 = 0 then (f_X10_findPrices v0 v1 v3 I R).bind fun q8 => (zw_g (zw_gc (R v0 10) 13) ((f_J7_fill_53178 (R v0 10) (-1) q8).bind fun q10 => (zw_g (zw_gc (R v0 2) 1) (zw_g (zw_gc (R (R v0 2) 4) 16) (zw_g (zw_in v2 (zw_SH (R (R v0 2) 4)).2) (zw_g (zw_gc (R (R (R v0 2) 4) (Int32.toNatClampNeg v2)) 0) ((f_X10_dearestWithin v0 v1 (R (R (R v0 2) 4) (Int32.toNatClampNeg v2)) 0 (q10 (R (R (R v0 2) 4) (Int32.toNatClampNeg v2)) 1) q10 R).bind fun q15 => (if ¬ q15 = (-1) then zw_g (zw_gc (R (R v0 2) 2) 16) (zw_g (zw_in q15 (zw_SH (R (R v0 2) 2)).2) (zw_g (zw_gc (R (R (R v0 2) 2) (Int32.toNatClampNeg q15)) 0) ((f_X10_firstPlace (R (R (R v0 2) 2) (Int32.toNatClampNeg q15)) (R (R (R v0 2) 4) (Int32.toNatClampNeg v2)) 0 (q10 (R (R (R v0 2) 4) (Int32.toNatClampNeg v2)) 1) q10 R).bind fun q20 => ((f_X10_lay v0 1 q15 q20 q10 R).bind fun q21 => (zw_g (zw_gc (R v0 9) 13) (zw_g (zw_in q15 (zw_SH (R v0 9)).2) (some ((q21 (R v0 9) (Int32.toNatClampNeg q15)), q21)))))))) else some ((-2), q10))))))))) else some ((-1), I)))))
theorem c_X10_dearest (X : zw_X) (v0 : Nat) (v1 : Int32) (v2 : Int32) (v3 : Int32) (I : zI) (R : zR) (J : zJ) {P : Option Value → aS → Prop} (o : Int32 × zI) (hf : f_X10_dearest v0 v1 v2 v3 I R = some o) (hk : P (some (.int o.1)) (o.2, R, J)) : zw_C X M_X10_dearest 6 0 0 199 [.ref v0, .int v1, .int v2, .int v3] (I, R, J) P := by
  show zy_V X M_X10_dearest 6 P 0 [.ref v0, .int v1, .int v2, .int v3, .null, .null] [] (I, R, J)
  unfold f_X10_dearest at hf
  refine zv_aload_n (pc := 0) d_X10_dearest_0 rfl ?_
  refine zv_iload_n (pc := 1) d_X10_dearest_1 rfl ?_
  obtain ⟨g1, hf⟩ := zw_gcE hf (by decide)
  obtain ⟨q2, hq2, hf⟩ := zw_bdE hf
  refine zx_callV (pc := 2) (As := [.int v1]) (o := v0) (st := []) (d2 := 0) (M2 := M_X10_areCuts) (P2 := (fun r S => r = (some (.int q2)) ∧ S = (I, R, J))) d_X10_dearest_2 (zw_mG (List.mem_of_getElem? (i := 1046) (by decide +kernel)) rfl) ce_X10_areCuts (zw_RvK g1 rfl rfl) (Nat.le_of_ble_eq_true rfl) rfl (Nat.le_of_ble_eq_true rfl) (by decide) (c_X10_areCuts X v0 v1 I R J _ hq2 ⟨rfl, rfl⟩) ?_
  rintro _ _ ⟨rfl, rfl⟩
  show zy_V X M_X10_dearest 6 P (2 + 3) [.ref v0, .int v1, .int v2, .int v3, .null, .null] [.int q2] (I, R, J)
  rcases zw_ifE hf with ⟨c3, hf⟩ | ⟨c3, hf⟩
  · refine zv_if_eq (pc := 5) (tg := 24) d_X10_dearest_5 (by decide) (fun _ => ?_) (fun q => absurd c3 q)
    refine zv_iconst (pc := 24) d_X10_dearest_24 zc_i_m1 ?_
    cases hf
    exact zx_iret (pc := 25) d_X10_dearest_25 rfl hk
  · refine zv_if_eq (pc := 5) (tg := 24) d_X10_dearest_5 (by decide) (fun q => absurd q c3) (fun _ => ?_)
    refine zv_aload_n (pc := 8) d_X10_dearest_8 rfl ?_
    refine zv_iload_n (pc := 9) d_X10_dearest_9 rfl ?_
    obtain ⟨q4, hq4, hf⟩ := zw_bdE hf
    refine zx_callV (pc := 10) (As := [.int v2]) (o := v0) (st := []) (d2 := 0) (M2 := M_X10_isRough) (P2 := (fun r S => r = (some (.int q4)) ∧ S = (I, R, J))) d_X10_dearest_10 (zw_mG (List.mem_of_getElem? (i := 845) (by decide +kernel)) rfl) ce_X10_isRough (zw_RvK g1 rfl rfl) (Nat.le_of_ble_eq_true rfl) rfl (Nat.le_of_ble_eq_true rfl) (by decide) (c_X10_isRough X v0 v2 I R J _ hq4 ⟨rfl, rfl⟩) ?_
    rintro _ _ ⟨rfl, rfl⟩
    show zy_V X M_X10_dearest 6 P (10 + 3) [.ref v0, .int v1, .int v2, .int v3, .null, .null] [.int q4] (I, R, J)
    rcases zw_ifE hf with ⟨c5, hf⟩ | ⟨c5, hf⟩
    · refine zv_if_eq (pc := 13) (tg := 24) d_X10_dearest_13 (by decide) (fun _ => ?_) (fun q => absurd c5 q)
      refine zv_iconst (pc := 24) d_X10_dearest_24 zc_i_m1 ?_
      cases hf
      exact zx_iret (pc := 25) d_X10_dearest_25 rfl hk
    · refine zv_if_eq (pc := 13) (tg := 24) d_X10_dearest_13 (by decide) (fun q => absurd q c5) (fun _ => ?_)
      refine zv_aload_n (pc := 16) d_X10_dearest_16 rfl ?_
      refine zv_iload_n (pc := 17) d_X10_dearest_17 rfl ?_
      obtain ⟨q6, hq6, hf⟩ := zw_bdE hf
      refine zx_callV (pc := 18) (As := [.int v3]) (o := v0) (st := []) (d2 := 0) (M2 := M_X10_isStuff) (P2 := (fun r S => r = (some (.int q6)) ∧ S = (I, R, J))) d_X10_dearest_18 (zw_mG (List.mem_of_getElem? (i := 880) (by decide +kernel)) rfl) ce_X10_isStuff (zw_RvK g1 rfl rfl) (Nat.le_of_ble_eq_true rfl) rfl (Nat.le_of_ble_eq_true rfl) (by decide) (c_X10_isStuff X v0 v3 I R J _ hq6 ⟨rfl, rfl⟩) ?_
      rintro _ _ ⟨rfl, rfl⟩
      show zy_V X M_X10_dearest 6 P (18 + 3) [.ref v0, .int v1, .int v2, .int v3, .null, .null] [.int q6] (I, R, J)
      rcases zw_ifE hf with ⟨c7, hf⟩ | ⟨c7, hf⟩
      · refine zv_if_ne (pc := 21) (tg := 26) d_X10_dearest_21 (by decide) (fun _ => ?_) (fun q => absurd q c7)
        refine zv_aload_n (pc := 26) d_X10_dearest_26 rfl ?_
        refine zv_iload_n (pc := 27) d_X10_dearest_27 rfl ?_
        refine zv_iload_n (pc := 28) d_X10_dearest_28 rfl ?_
        obtain ⟨q8, hq8, hf⟩ := zw_bdE hf
        refine zx_callV (pc := 29) (As := [.int v1, .int v3]) (o := v0) (st := []) (d2 := 5) (M2 := M_X10_findPrices) (P2 := (fun r S => r = none ∧ S = (q8, R, J))) d_X10_dearest_29 (zw_mG (List.mem_of_getElem? (i := 1050) (by decide +kernel)) rfl) ce_X10_findPrices (zw_RvK g1 rfl rfl) (Nat.le_of_ble_eq_true rfl) rfl (Nat.le_of_ble_eq_true rfl) (by decide) (c_X10_findPrices X v0 v1 v3 I R J _ hq8 ⟨rfl, rfl⟩) ?_
        rintro _ _ ⟨rfl, rfl⟩
        show zy_V X M_X10_dearest 6 P (29 + 3) [.ref v0, .int v1, .int v2, .int v3, .null, .null] [] (q8, R, J)
        refine zv_aload_n (pc := 32) d_X10_dearest_32 rfl ?_
        obtain ⟨g9, hf⟩ := zw_gcE hf (by decide)
        refine zx_getR (pc := 33) d_X10_dearest_33 lk_CutStones_65 (by decide) g1 g9 ?_
        refine zv_iconst (pc := 36) d_X10_dearest_36 zc_i_m1 ?_
        obtain ⟨q10, hq10, hf⟩ := zw_bdE hf
        refine zx_callS (pc := 37) (As := [.ref (R v0 10), .int (-1)]) (st := []) (d2 := 0) (M2 := M_J7_fill_53178) (P2 := (fun r S => r = none ∧ S = (q10, R, J))) d_X10_dearest_37 (zw_mG (List.mem_of_getElem? (i := 478) (by decide +kernel)) rfl) ce_J7_fill_53178 (Nat.le_of_ble_eq_true rfl) rfl (Nat.le_of_ble_eq_true rfl) (by decide) (c_J7_fill_53178 X (R v0 10) (-1) q8 R J _ hq10 ⟨rfl, rfl⟩) ?_
        rintro _ _ ⟨rfl, rfl⟩
        show zy_V X M_X10_dearest 6 P (37 + 3) [.ref v0, .int v1, .int v2, .int v3, .null, .null] [] (q10, R, J)
        refine zv_aload_n (pc := 40) d_X10_dearest_40 rfl ?_
        obtain ⟨g11, hf⟩ := zw_gcE hf (by decide)
        refine zx_getR (pc := 41) d_X10_dearest_41 lk_CutStones_26 (by decide) g1 g11 ?_
        obtain ⟨g12, hf⟩ := zw_gcE hf (by decide)
        refine zx_getR (pc := 44) d_X10_dearest_44 lk_CutStones_211 (by decide) g11 g12 ?_
        refine zv_iload_n (pc := 47) d_X10_dearest_47 rfl ?_
        obtain ⟨i13, hf⟩ := zw_inE hf
        obtain ⟨g14, hf⟩ := zw_gcE hf (by decide)
        refine zx_aald (pc := 48) d_X10_dearest_48 g12 (by decide) i13 g14 ?_
        refine zx_astore (pc := 49) (L2 := [.ref v0, .int v1, .int v2, .int v3, .ref (R (R (R v0 2) 4) (Int32.toNatClampNeg v2)), .null]) d_X10_dearest_49 (by decide) rfl ?_
        refine zv_aload_n (pc := 51) d_X10_dearest_51 rfl ?_
        refine zv_iload_n (pc := 52) d_X10_dearest_52 rfl ?_
        refine zv_aload (pc := 53) d_X10_dearest_53 rfl ?_
        refine zv_iconst (pc := 55) d_X10_dearest_55 zc_i_0 ?_
        refine zv_aload (pc := 56) d_X10_dearest_56 rfl ?_
        refine zx_getI (pc := 58) d_X10_dearest_58 lk_CutStones_224 (by decide) g14 ?_
        obtain ⟨q15, hq15, hf⟩ := zw_bdE hf
        refine zx_callV (pc := 61) (As := [.int v1, .ref (R (R (R v0 2) 4) (Int32.toNatClampNeg v2)), .int 0, .int (q10 (R (R (R v0 2) 4) (Int32.toNatClampNeg v2)) 1)]) (o := v0) (st := []) (d2 := 3) (M2 := M_X10_dearestWithin) (P2 := (fun r S => r = (some (.int q15)) ∧ S = (q10, R, J))) d_X10_dearest_61 (zw_mG (List.mem_of_getElem? (i := 1055) (by decide +kernel)) rfl) ce_X10_dearestWithin (zw_RvK g1 rfl rfl) (Nat.le_of_ble_eq_true rfl) rfl (Nat.le_of_ble_eq_true rfl) (by decide) (c_X10_dearestWithin X v0 v1 (R (R (R v0 2) 4) (Int32.toNatClampNeg v2)) 0 (q10 (R (R (R v0 2) 4) (Int32.toNatClampNeg v2)) 1) q10 R J _ hq15 ⟨rfl, rfl⟩) ?_
        rintro _ _ ⟨rfl, rfl⟩
        show zy_V X M_X10_dearest 6 P (61 + 3) [.ref v0, .int v1, .int v2, .int v3, .ref (R (R (R v0 2) 4) (Int32.toNatClampNeg v2)), .null] [.int q15] (q10, R, J)
        refine zx_istore (pc := 64) (x2 := q15) (L2 := [.ref v0, .int v1, .int v2, .int v3, .ref (R (R (R v0 2) 4) (Int32.toNatClampNeg v2)), .int q15]) d_X10_dearest_64 (by decide) rfl rfl ?_
        refine zv_iload (pc := 66) d_X10_dearest_66 rfl ?_
        refine zv_iconst (pc := 68) d_X10_dearest_68 zc_i_m1 ?_
        rcases zw_ifE hf with ⟨c16, hf⟩ | ⟨c16, hf⟩
        · refine zv_icmp_ne (pc := 69) (tg := 75) d_X10_dearest_69 (by decide) (fun _ => ?_) (fun q => absurd q c16)
          refine zv_aload_n (pc := 75) d_X10_dearest_75 rfl ?_
          refine zv_iconst (pc := 76) d_X10_dearest_76 zc_i_1 ?_
          refine zv_iload (pc := 77) d_X10_dearest_77 rfl ?_
          refine zv_aload_n (pc := 79) d_X10_dearest_79 rfl ?_
          refine zx_getR (pc := 80) d_X10_dearest_80 lk_CutStones_26 (by decide) g1 g11 ?_
          obtain ⟨g17, hf⟩ := zw_gcE hf (by decide)
          refine zx_getR (pc := 83) d_X10_dearest_83 lk_CutStones_141 (by decide) g11 g17 ?_
          refine zv_iload (pc := 86) d_X10_dearest_86 rfl ?_
          obtain ⟨i18, hf⟩ := zw_inE hf
          obtain ⟨g19, hf⟩ := zw_gcE hf (by decide)
          refine zx_aald (pc := 88) d_X10_dearest_88 g17 (by decide) i18 g19 ?_
          refine zv_aload (pc := 89) d_X10_dearest_89 rfl ?_
          refine zv_iconst (pc := 91) d_X10_dearest_91 zc_i_0 ?_
          refine zv_aload (pc := 92) d_X10_dearest_92 rfl ?_
          refine zx_getI (pc := 94) d_X10_dearest_94 lk_CutStones_224 (by decide) g14 ?_
          obtain ⟨q20, hq20, hf⟩ := zw_bdE hf
          refine zx_callS (pc := 97) (As := [.ref (R (R (R v0 2) 2) (Int32.toNatClampNeg q15)), .ref (R (R (R v0 2) 4) (Int32.toNatClampNeg v2)), .int 0, .int (q10 (R (R (R v0 2) 4) (Int32.toNatClampNeg v2)) 1)]) (st := [.int q15, .int 1, .ref v0]) (d2 := 2) (M2 := M_X10_firstPlace) (P2 := (fun r S => r = (some (.int q20)) ∧ S = (q10, R, J))) d_X10_dearest_97 (zw_mG (List.mem_of_getElem? (i := 1059) (by decide +kernel)) rfl) ce_X10_firstPlace (Nat.le_of_ble_eq_true rfl) rfl (Nat.le_of_ble_eq_true rfl) (by decide) (c_X10_firstPlace X (R (R (R v0 2) 2) (Int32.toNatClampNeg q15)) (R (R (R v0 2) 4) (Int32.toNatClampNeg v2)) 0 (q10 (R (R (R v0 2) 4) (Int32.toNatClampNeg v2)) 1) q10 R J _ hq20 ⟨rfl, rfl⟩) ?_
          rintro _ _ ⟨rfl, rfl⟩
          show zy_V X M_X10_dearest 6 P (97 + 3) [.ref v0, .int v1, .int v2, .int v3, .ref (R (R (R v0 2) 4) (Int32.toNatClampNeg v2)), .int q15] [.int q20, .int q15, .int 1, .ref v0] (q10, R, J)
          obtain ⟨q21, hq21, hf⟩ := zw_bdE hf
          refine zx_callV (pc := 100) (As := [.int 1, .int q15, .int q20]) (o := v0) (st := []) (d2 := 0) (M2 := M_X10_lay) (P2 := (fun r S => r = none ∧ S = (q21, R, J))) d_X10_dearest_100 (zw_mG (List.mem_of_getElem? (i := 1062) (by decide +kernel)) rfl) ce_X10_lay (zw_RvK g1 rfl rfl) (Nat.le_of_ble_eq_true rfl) rfl (Nat.le_of_ble_eq_true rfl) (by decide) (c_X10_lay X v0 1 q15 q20 q10 R J _ hq21 ⟨rfl, rfl⟩) ?_
          rintro _ _ ⟨rfl, rfl⟩
          show zy_V X M_X10_dearest 6 P (100 + 3) [.ref v0, .int v1, .int v2, .int v3, .ref (R (R (R v0 2) 4) (Int32.toNatClampNeg v2)), .int q15] [] (q21, R, J)
          refine zv_aload_n (pc := 103) d_X10_dearest_103 rfl ?_
          obtain ⟨g22, hf⟩ := zw_gcE hf (by decide)
          refine zx_getR (pc := 104) d_X10_dearest_104 lk_CutStones_61 (by decide) g1 g22 ?_
          refine zv_iload (pc := 107) d_X10_dearest_107 rfl ?_
          obtain ⟨i23, hf⟩ := zw_inE hf
          refine zx_iald (pc := 109) d_X10_dearest_109 g22 i23 ?_
          cases hf
          exact zx_iret (pc := 110) d_X10_dearest_110 rfl hk
        · refine zv_icmp_ne (pc := 69) (tg := 75) d_X10_dearest_69 (by decide) (fun q => absurd q c16) (fun _ => ?_)
          refine zv_bipush (pc := 72) d_X10_dearest_72 zc_b_m2 ?_
          cases hf
          exact zx_iret (pc := 74) d_X10_dearest_74 rfl hk
      · refine zv_if_ne (pc := 21) (tg := 26) d_X10_dearest_21 (by decide) (fun q => absurd q c7) (fun _ => ?_)
        refine zv_iconst (pc := 24) d_X10_dearest_24 zc_i_m1 ?_
        cases hf
        exact zx_iret (pc := 25) d_X10_dearest_25 rfl hk
abbrev M_X10_openStuffs : zw_M := (⟨"CutStones", "openStuffs", "(I)I"⟩, prog_1_method_46_code, 4, (Option.some Jvm.ClassFile.FieldType.int))
theorem d_X10_openStuffs_0 : decode M_X10_openStuffs.2.1 0 = .ok (.iconst 0, 1) := by decide +kernel
theorem d_X10_openStuffs_1 : decode M_X10_openStuffs.2.1 1 = .ok (.istore_n 2, 1) := by decide +kernel
theorem d_X10_openStuffs_2 : decode M_X10_openStuffs.2.1 2 = .ok (.iconst 0, 1) := by decide +kernel
theorem d_X10_openStuffs_3 : decode M_X10_openStuffs.2.1 3 = .ok (.istore_n 3, 1) := by decide +kernel
theorem d_X10_openStuffs_4 : decode M_X10_openStuffs.2.1 4 = .ok (.iload_n 3, 1) := by decide +kernel
theorem d_X10_openStuffs_5 : decode M_X10_openStuffs.2.1 5 = .ok (.aload_n 0, 1) := by decide +kernel
theorem d_X10_openStuffs_6 : decode M_X10_openStuffs.2.1 6 = .ok (.getfield 26, 3) := by decide +kernel
theorem d_X10_openStuffs_9 : decode M_X10_openStuffs.2.1 9 = .ok (.getfield 267, 3) := by decide +kernel
theorem d_X10_openStuffs_12 : decode M_X10_openStuffs.2.1 12 = .ok (.if_icmp .ge 26, 3) := by decide +kernel
theorem d_X10_openStuffs_15 : decode M_X10_openStuffs.2.1 15 = .ok (.aload_n 0, 1) := by decide +kernel
theorem d_X10_openStuffs_16 : decode M_X10_openStuffs.2.1 16 = .ok (.iload_n 3, 1) := by decide +kernel
theorem d_X10_openStuffs_17 : decode M_X10_openStuffs.2.1 17 = .ok (.iload_n 1, 1) := by decide +kernel
theorem d_X10_openStuffs_18 : decode M_X10_openStuffs.2.1 18 = .ok (.invokevirtual 250, 3) := by decide +kernel
theorem d_X10_openStuffs_21 : decode M_X10_openStuffs.2.1 21 = .ok (.bipush (-2), 2) := by decide +kernel
theorem d_X10_openStuffs_23 : decode M_X10_openStuffs.2.1 23 = .ok (.if_icmp .ne 9, 3) := by decide +kernel
theorem d_X10_openStuffs_26 : decode M_X10_openStuffs.2.1 26 = .ok (.iload_n 2, 1) := by decide +kernel
theorem d_X10_openStuffs_27 : decode M_X10_openStuffs.2.1 27 = .ok (.iconst 1, 1) := by decide +kernel
theorem d_X10_openStuffs_28 : decode M_X10_openStuffs.2.1 28 = .ok (.iload_n 3, 1) := by decide +kernel
theorem d_X10_openStuffs_29 : decode M_X10_openStuffs.2.1 29 = .ok (.ishl, 1) := by decide +kernel
theorem d_X10_openStuffs_30 : decode M_X10_openStuffs.2.1 30 = .ok (.ior, 1) := by decide +kernel
theorem d_X10_openStuffs_31 : decode M_X10_openStuffs.2.1 31 = .ok (.istore_n 2, 1) := by decide +kernel
theorem d_X10_openStuffs_32 : decode M_X10_openStuffs.2.1 32 = .ok (.iinc 3 1, 3) := by decide +kernel
theorem d_X10_openStuffs_35 : decode M_X10_openStuffs.2.1 35 = .ok (.goto (-31), 3) := by decide +kernel
theorem d_X10_openStuffs_38 : decode M_X10_openStuffs.2.1 38 = .ok (.iload_n 2, 1) := by decide +kernel
theorem d_X10_openStuffs_39 : decode M_X10_openStuffs.2.1 39 = .ok (.ireturn, 1) := by decide +kernel
theorem ce_X10_openStuffs : zw_CeV M_X10_openStuffs 1 := ⟨⟨⟨by decide +kernel, by decide +kernel, by decide +kernel⟩, (zw_mG (List.mem_of_getElem? (i := 1122) (by decide +kernel)) rfl), (zw_mG (List.mem_of_getElem? (i := 96) (by decide +kernel)) rfl), by decide, by decide +kernel⟩, (zw_mG (List.mem_of_getElem? (i := 1121) (by decide +kernel)) rfl), (zw_mG (List.mem_of_getElem? (i := 46) (by decide +kernel)) rfl)⟩
def j_X10_openStuffs_32_4 (v0 : Nat) (v1 : Int32) (v2 : Int32) (v3 : Int32) (I : zI) (R : zR) : Option ((Int32 × Int32 × zI) ⊕ (Int32 × zI)) :=
  zw_let (v3 + 1 : Int32) fun x6 => (some (.inl (v2, x6, I)))
theorem j_X10_openStuffs_32_4_ok (X : zw_X) (P : Option Value → aS → Prop) (v0 : Nat) (v1 : Int32) (v2 : Int32) (v3 : Int32) (I : zI) (R : zR) (J : zJ) (o : (Int32 × Int32 × zI) ⊕ (Int32 × zI)) (hf : j_X10_openStuffs_32_4 v0 v1 v2 v3 I R = some o) (hk : (zw_se (fun t => zy_V X M_X10_openStuffs 6 P 4 [.ref v0, .int v1, .int t.1, .int t.2.1] [] (t.2.2, R, J)) (fun r => zy_V X M_X10_openStuffs 6 P 38 [.null, .null, .int r.1, .null] [] (r.2, R, J)) o)) : zy_V X M_X10_openStuffs 6 P 32 [.ref v0, .int v1, .int v2, .int v3] [] (I, R, J) := by
  unfold j_X10_openStuffs_32_4 at hf
  obtain ⟨x6, ex6, hf⟩ := zw_letE hf
  refine zx_iinc (pc := 32) (x2 := x6) (L2 := [.ref v0, .int v1, .int v2, .int x6]) d_X10_openStuffs_32 (by decide) rfl zc_i_1 ex6 rfl ?_
  refine zv_goto (pc := 35) (tg := 4) d_X10_openStuffs_35 (by decide) ?_
  cases hf
  exact zx_weak (zw_leS (zw_leS (zw_leS (zw_leS zw_leZ)))) hk
def s_X10_openStuffs_4 (v0 : Nat) (v1 : Int32) (R : zR) (s : Int32 × Int32 × zI) : Option ((Int32 × Int32 × zI) ⊕ (Int32 × zI)) :=
  zw_g (zw_gc v0 10) (zw_g (zw_gc (R v0 2) 1) (if (s.2.2 (R v0 2) 1) ≤ s.2.1 then some (.inr (s.1, s.2.2)) else (f_X10_barringTest v0 s.2.1 v1 s.2.2 R).bind fun q4 => (if ¬ q4.1 = (-2) then j_X10_openStuffs_32_4 v0 v1 s.1 s.2.1 q4.2 R else zw_let ((s.1 ||| (1 <<< (s.2.1 &&& 31))) : Int32) fun x7 => (j_X10_openStuffs_32_4 v0 v1 x7 s.2.1 q4.2 R))))
theorem s_X10_openStuffs_4_ok (X : zw_X) (P : Option Value → aS → Prop) (v0 : Nat) (v1 : Int32) (R : zR) (J : zJ) (s : Int32 × Int32 × zI) (o : (Int32 × Int32 × zI) ⊕ (Int32 × zI)) (hf : s_X10_openStuffs_4 v0 v1 R s = some o) (hk : (zw_se (fun t => zy_V X M_X10_openStuffs 6 P 4 [.ref v0, .int v1, .int t.1, .int t.2.1] [] (t.2.2, R, J)) (fun r => zy_V X M_X10_openStuffs 6 P 38 [.null, .null, .int r.1, .null] [] (r.2, R, J)) o)) : zy_V X M_X10_openStuffs 6 P 4 [.ref v0, .int v1, .int s.1, .int s.2.1] [] (s.2.2, R, J) := by
  unfold s_X10_openStuffs_4 at hf
  refine zv_iload_n (pc := 4) d_X10_openStuffs_4 rfl ?_
  refine zv_aload_n (pc := 5) d_X10_openStuffs_5 rfl ?_
  obtain ⟨g1, hf⟩ := zw_gcE hf (by decide)
  obtain ⟨g2, hf⟩ := zw_gcE hf (by decide)
  refine zx_getR (pc := 6) d_X10_openStuffs_6 lk_CutStones_26 (by decide) g1 g2 ?_
  refine zx_getI (pc := 9) d_X10_openStuffs_9 lk_CutStones_267 (by decide) g2 ?_
  rcases zw_ifE hf with ⟨c3, hf⟩ | ⟨c3, hf⟩
  · refine zv_icmp_ge (pc := 12) (tg := 38) d_X10_openStuffs_12 (by decide) (fun _ => ?_) (fun q => absurd c3 q)
    cases hf
    exact zx_weak (zw_leN (zw_leN (zw_leS (zw_leN zw_leZ)))) hk
  · refine zv_icmp_ge (pc := 12) (tg := 38) d_X10_openStuffs_12 (by decide) (fun q => absurd q c3) (fun _ => ?_)
    refine zv_aload_n (pc := 15) d_X10_openStuffs_15 rfl ?_
    refine zv_iload_n (pc := 16) d_X10_openStuffs_16 rfl ?_
    refine zv_iload_n (pc := 17) d_X10_openStuffs_17 rfl ?_
    obtain ⟨q4, hq4, hf⟩ := zw_bdE hf
    refine zx_callV (pc := 18) (As := [.int s.2.1, .int v1]) (o := v0) (st := []) (d2 := 5) (M2 := M_X10_barringTest) (P2 := (fun r S => r = (some (.int q4.1)) ∧ S = (q4.2, R, J))) d_X10_openStuffs_18 (zw_mG (List.mem_of_getElem? (i := 1106) (by decide +kernel)) rfl) ce_X10_barringTest (zw_RvK g1 rfl rfl) (Nat.le_of_ble_eq_true rfl) rfl (Nat.le_of_ble_eq_true rfl) (by decide) (c_X10_barringTest X v0 s.2.1 v1 s.2.2 R J _ hq4 ⟨rfl, rfl⟩) ?_
    rintro _ _ ⟨rfl, rfl⟩
    show zy_V X M_X10_openStuffs 6 P (18 + 3) [.ref v0, .int v1, .int s.1, .int s.2.1] [.int q4.1] (q4.2, R, J)
    refine zv_bipush (pc := 21) d_X10_openStuffs_21 zc_b_m2 ?_
    rcases zw_ifE hf with ⟨c5, hf⟩ | ⟨c5, hf⟩
    · refine zv_icmp_ne (pc := 23) (tg := 32) d_X10_openStuffs_23 (by decide) (fun _ => ?_) (fun q => absurd q c5)
      exact zx_weak (zw_leS (zw_leS (zw_leS (zw_leS zw_leZ)))) (j_X10_openStuffs_32_4_ok X P v0 v1 s.1 s.2.1 q4.2 R J _ hf hk)
    · refine zv_icmp_ne (pc := 23) (tg := 32) d_X10_openStuffs_23 (by decide) (fun q => absurd q c5) (fun _ => ?_)
      refine zv_iload_n (pc := 26) d_X10_openStuffs_26 rfl ?_
      refine zv_iconst (pc := 27) d_X10_openStuffs_27 zc_i_1 ?_
      refine zv_iload_n (pc := 28) d_X10_openStuffs_28 rfl ?_
      refine zv_ishl (pc := 29) d_X10_openStuffs_29 ?_
      refine zv_ior (pc := 30) d_X10_openStuffs_30 ?_
      obtain ⟨x7, ex7, hf⟩ := zw_letE hf
      refine zx_istore_n (pc := 31) (x2 := x7) (L2 := [.ref v0, .int v1, .int x7, .int s.2.1]) d_X10_openStuffs_31 (by decide) ex7 rfl ?_
      exact zx_weak (zw_leS (zw_leS (zw_leS (zw_leS zw_leZ)))) (j_X10_openStuffs_32_4_ok X P v0 v1 x7 s.2.1 q4.2 R J _ hf hk)
theorem s_X10_openStuffs_4_lp (X : zw_X) (P : Option Value → aS → Prop) (v0 : Nat) (v1 : Int32) (R : zR) (J : zJ) (n : Nat) (s : Int32 × Int32 × zI) (r : Int32 × zI) (h : zw_it (s_X10_openStuffs_4 v0 v1 R) n s = some r) (hq : zy_V X M_X10_openStuffs 6 P 38 [.null, .null, .int r.1, .null] [] (r.2, R, J)) : zy_V X M_X10_openStuffs 6 P 4 [.ref v0, .int v1, .int s.1, .int s.2.1] [] (s.2.2, R, J) :=
  zw_itE (A := (fun t : Int32 × Int32 × zI => zy_V X M_X10_openStuffs 6 P 4 [.ref v0, .int v1, .int t.1, .int t.2.1] [] (t.2.2, R, J))) (Q := (fun r : Int32 × zI => zy_V X M_X10_openStuffs 6 P 38 [.null, .null, .int r.1, .null] [] (r.2, R, J))) (fun s o h1 h2 => s_X10_openStuffs_4_ok X P v0 v1 R J s o h1 h2) n s r h hq
def f_X10_openStuffs (v0 : Nat) (v1 : Int32) (I : zI) (R : zR) : Option (Int32 × zI) :=
  (zw_it (s_X10_openStuffs_4 v0 v1 R) 1000000 (0, 0, I)).bind fun q8 => (some (q8.1, q8.2))
theorem c_X10_openStuffs (X : zw_X) (v0 : Nat) (v1 : Int32) (I : zI) (R : zR) (J : zJ) {P : Option Value → aS → Prop} (o : Int32 × zI) (hf : f_X10_openStuffs v0 v1 I R = some o) (hk : P (some (.int o.1)) (o.2, R, J)) : zw_C X M_X10_openStuffs 6 0 0 199 [.ref v0, .int v1] (I, R, J) P := by
  show zy_V X M_X10_openStuffs 6 P 0 [.ref v0, .int v1, .null, .null] [] (I, R, J)
  unfold f_X10_openStuffs at hf
  refine zv_iconst (pc := 0) d_X10_openStuffs_0 zc_i_0 ?_
  refine zx_istore_n (pc := 1) (x2 := 0) (L2 := [.ref v0, .int v1, .int 0, .null]) d_X10_openStuffs_1 (by decide) rfl rfl ?_
  refine zv_iconst (pc := 2) d_X10_openStuffs_2 zc_i_0 ?_
  refine zx_istore_n (pc := 3) (x2 := 0) (L2 := [.ref v0, .int v1, .int 0, .int 0]) d_X10_openStuffs_3 (by decide) rfl rfl ?_
  obtain ⟨q8, hq8, hf⟩ := zw_bdE hf
  refine zx_weak (L' := [.ref v0, .int v1, .int 0, .int 0]) (zw_leS (zw_leS (zw_leS (zw_leS zw_leZ)))) (s_X10_openStuffs_4_lp X P v0 v1 R J _ _ _ hq8 ?_)
  show zy_V X M_X10_openStuffs 6 P 38 [.null, .null, .int q8.1, .null] [] (q8.2, R, J)
  refine zv_iload_n (pc := 38) d_X10_openStuffs_38 rfl ?_
  cases hf
  exact zx_iret (pc := 39) d_X10_openStuffs_39 rfl hk
abbrev M_X10_two : zw_M := (⟨"CutStones", "two", "(III)I"⟩, prog_1_method_20_code, 9, (Option.some Jvm.ClassFile.FieldType.int))
theorem d_X10_two_0 : decode M_X10_two.2.1 0 = .ok (.aload_n 0, 1) := by decide +kernel
theorem d_X10_two_1 : decode M_X10_two.2.1 1 = .ok (.iload_n 1, 1) := by decide +kernel
theorem d_X10_two_2 : decode M_X10_two.2.1 2 = .ok (.invokevirtual 218, 3) := by decide +kernel
theorem d_X10_two_5 : decode M_X10_two.2.1 5 = .ok (.ifCond .eq 19, 3) := by decide +kernel
theorem d_X10_two_8 : decode M_X10_two.2.1 8 = .ok (.aload_n 0, 1) := by decide +kernel
theorem d_X10_two_9 : decode M_X10_two.2.1 9 = .ok (.iload_n 2, 1) := by decide +kernel
theorem d_X10_two_10 : decode M_X10_two.2.1 10 = .ok (.invokevirtual 208, 3) := by decide +kernel
theorem d_X10_two_13 : decode M_X10_two.2.1 13 = .ok (.ifCond .eq 11, 3) := by decide +kernel
theorem d_X10_two_16 : decode M_X10_two.2.1 16 = .ok (.aload_n 0, 1) := by decide +kernel
theorem d_X10_two_17 : decode M_X10_two.2.1 17 = .ok (.iload_n 3, 1) := by decide +kernel
theorem d_X10_two_18 : decode M_X10_two.2.1 18 = .ok (.invokevirtual 149, 3) := by decide +kernel
theorem d_X10_two_21 : decode M_X10_two.2.1 21 = .ok (.ifCond .ne 5, 3) := by decide +kernel
theorem d_X10_two_24 : decode M_X10_two.2.1 24 = .ok (.iconst (-1), 1) := by decide +kernel
theorem d_X10_two_25 : decode M_X10_two.2.1 25 = .ok (.ireturn, 1) := by decide +kernel
theorem d_X10_two_26 : decode M_X10_two.2.1 26 = .ok (.aload_n 0, 1) := by decide +kernel
theorem d_X10_two_27 : decode M_X10_two.2.1 27 = .ok (.iload_n 1, 1) := by decide +kernel
theorem d_X10_two_28 : decode M_X10_two.2.1 28 = .ok (.iload_n 3, 1) := by decide +kernel
theorem d_X10_two_29 : decode M_X10_two.2.1 29 = .ok (.invokevirtual 221, 3) := by decide +kernel
theorem d_X10_two_32 : decode M_X10_two.2.1 32 = .ok (.aload_n 0, 1) := by decide +kernel
theorem d_X10_two_33 : decode M_X10_two.2.1 33 = .ok (.getfield 65, 3) := by decide +kernel
theorem d_X10_two_36 : decode M_X10_two.2.1 36 = .ok (.iconst (-1), 1) := by decide +kernel
theorem d_X10_two_37 : decode M_X10_two.2.1 37 = .ok (.invokestatic 82, 3) := by decide +kernel
theorem d_X10_two_40 : decode M_X10_two.2.1 40 = .ok (.aload_n 0, 1) := by decide +kernel
theorem d_X10_two_41 : decode M_X10_two.2.1 41 = .ok (.getfield 26, 3) := by decide +kernel
theorem d_X10_two_44 : decode M_X10_two.2.1 44 = .ok (.getfield 211, 3) := by decide +kernel
theorem d_X10_two_47 : decode M_X10_two.2.1 47 = .ok (.iload_n 2, 1) := by decide +kernel
theorem d_X10_two_48 : decode M_X10_two.2.1 48 = .ok (.aaload, 1) := by decide +kernel
theorem d_X10_two_49 : decode M_X10_two.2.1 49 = .ok (.astore 4, 2) := by decide +kernel
theorem d_X10_two_51 : decode M_X10_two.2.1 51 = .ok (.bipush (-2), 2) := by decide +kernel
theorem d_X10_two_53 : decode M_X10_two.2.1 53 = .ok (.istore 5, 2) := by decide +kernel
theorem d_X10_two_55 : decode M_X10_two.2.1 55 = .ok (.iconst 1, 1) := by decide +kernel
theorem d_X10_two_56 : decode M_X10_two.2.1 56 = .ok (.istore 6, 2) := by decide +kernel
theorem d_X10_two_58 : decode M_X10_two.2.1 58 = .ok (.iload 6, 2) := by decide +kernel
theorem d_X10_two_60 : decode M_X10_two.2.1 60 = .ok (.aload 4, 2) := by decide +kernel
theorem d_X10_two_62 : decode M_X10_two.2.1 62 = .ok (.getfield 224, 3) := by decide +kernel
theorem d_X10_two_65 : decode M_X10_two.2.1 65 = .ok (.if_icmp .ge 148, 3) := by decide +kernel
theorem d_X10_two_68 : decode M_X10_two.2.1 68 = .ok (.aload_n 0, 1) := by decide +kernel
theorem d_X10_two_69 : decode M_X10_two.2.1 69 = .ok (.iload_n 1, 1) := by decide +kernel
theorem d_X10_two_70 : decode M_X10_two.2.1 70 = .ok (.aload 4, 2) := by decide +kernel
theorem d_X10_two_72 : decode M_X10_two.2.1 72 = .ok (.iconst 0, 1) := by decide +kernel
theorem d_X10_two_73 : decode M_X10_two.2.1 73 = .ok (.iload 6, 2) := by decide +kernel
theorem d_X10_two_75 : decode M_X10_two.2.1 75 = .ok (.invokevirtual 225, 3) := by decide +kernel
theorem d_X10_two_78 : decode M_X10_two.2.1 78 = .ok (.istore 7, 2) := by decide +kernel
theorem d_X10_two_80 : decode M_X10_two.2.1 80 = .ok (.aload_n 0, 1) := by decide +kernel
theorem d_X10_two_81 : decode M_X10_two.2.1 81 = .ok (.iload_n 1, 1) := by decide +kernel
theorem d_X10_two_82 : decode M_X10_two.2.1 82 = .ok (.aload 4, 2) := by decide +kernel
theorem d_X10_two_84 : decode M_X10_two.2.1 84 = .ok (.iload 6, 2) := by decide +kernel
theorem d_X10_two_86 : decode M_X10_two.2.1 86 = .ok (.aload 4, 2) := by decide +kernel
theorem d_X10_two_88 : decode M_X10_two.2.1 88 = .ok (.getfield 224, 3) := by decide +kernel
theorem d_X10_two_91 : decode M_X10_two.2.1 91 = .ok (.invokevirtual 225, 3) := by decide +kernel
theorem d_X10_two_94 : decode M_X10_two.2.1 94 = .ok (.istore 8, 2) := by decide +kernel
theorem d_X10_two_96 : decode M_X10_two.2.1 96 = .ok (.iload 7, 2) := by decide +kernel
theorem d_X10_two_98 : decode M_X10_two.2.1 98 = .ok (.iconst (-1), 1) := by decide +kernel
theorem d_X10_two_99 : decode M_X10_two.2.1 99 = .ok (.if_icmp .eq 108, 3) := by decide +kernel
theorem d_X10_two_102 : decode M_X10_two.2.1 102 = .ok (.iload 8, 2) := by decide +kernel
theorem d_X10_two_104 : decode M_X10_two.2.1 104 = .ok (.iconst (-1), 1) := by decide +kernel
theorem d_X10_two_105 : decode M_X10_two.2.1 105 = .ok (.if_icmp .eq 102, 3) := by decide +kernel
theorem d_X10_two_108 : decode M_X10_two.2.1 108 = .ok (.aload_n 0, 1) := by decide +kernel
theorem d_X10_two_109 : decode M_X10_two.2.1 109 = .ok (.getfield 61, 3) := by decide +kernel
theorem d_X10_two_112 : decode M_X10_two.2.1 112 = .ok (.iload 7, 2) := by decide +kernel
theorem d_X10_two_114 : decode M_X10_two.2.1 114 = .ok (.iaload, 1) := by decide +kernel
theorem d_X10_two_115 : decode M_X10_two.2.1 115 = .ok (.aload_n 0, 1) := by decide +kernel
theorem d_X10_two_116 : decode M_X10_two.2.1 116 = .ok (.getfield 61, 3) := by decide +kernel
theorem d_X10_two_119 : decode M_X10_two.2.1 119 = .ok (.iload 8, 2) := by decide +kernel
theorem d_X10_two_121 : decode M_X10_two.2.1 121 = .ok (.iaload, 1) := by decide +kernel
theorem d_X10_two_122 : decode M_X10_two.2.1 122 = .ok (.iadd, 1) := by decide +kernel
theorem d_X10_two_123 : decode M_X10_two.2.1 123 = .ok (.iload 5, 2) := by decide +kernel
theorem d_X10_two_125 : decode M_X10_two.2.1 125 = .ok (.if_icmp .le 82, 3) := by decide +kernel
theorem d_X10_two_128 : decode M_X10_two.2.1 128 = .ok (.aload_n 0, 1) := by decide +kernel
theorem d_X10_two_129 : decode M_X10_two.2.1 129 = .ok (.getfield 61, 3) := by decide +kernel
theorem d_X10_two_132 : decode M_X10_two.2.1 132 = .ok (.iload 7, 2) := by decide +kernel
theorem d_X10_two_134 : decode M_X10_two.2.1 134 = .ok (.iaload, 1) := by decide +kernel
theorem d_X10_two_135 : decode M_X10_two.2.1 135 = .ok (.aload_n 0, 1) := by decide +kernel
theorem d_X10_two_136 : decode M_X10_two.2.1 136 = .ok (.getfield 61, 3) := by decide +kernel
theorem d_X10_two_139 : decode M_X10_two.2.1 139 = .ok (.iload 8, 2) := by decide +kernel
theorem d_X10_two_141 : decode M_X10_two.2.1 141 = .ok (.iaload, 1) := by decide +kernel
theorem d_X10_two_142 : decode M_X10_two.2.1 142 = .ok (.iadd, 1) := by decide +kernel
theorem d_X10_two_143 : decode M_X10_two.2.1 143 = .ok (.istore 5, 2) := by decide +kernel
theorem d_X10_two_145 : decode M_X10_two.2.1 145 = .ok (.aload_n 0, 1) := by decide +kernel
theorem d_X10_two_146 : decode M_X10_two.2.1 146 = .ok (.getfield 65, 3) := by decide +kernel
theorem d_X10_two_149 : decode M_X10_two.2.1 149 = .ok (.iconst 0, 1) := by decide +kernel
theorem d_X10_two_150 : decode M_X10_two.2.1 150 = .ok (.iload 6, 2) := by decide +kernel
theorem d_X10_two_152 : decode M_X10_two.2.1 152 = .ok (.iastore, 1) := by decide +kernel
theorem d_X10_two_153 : decode M_X10_two.2.1 153 = .ok (.aload_n 0, 1) := by decide +kernel
theorem d_X10_two_154 : decode M_X10_two.2.1 154 = .ok (.iconst 1, 1) := by decide +kernel
theorem d_X10_two_155 : decode M_X10_two.2.1 155 = .ok (.iload 7, 2) := by decide +kernel
theorem d_X10_two_157 : decode M_X10_two.2.1 157 = .ok (.aload_n 0, 1) := by decide +kernel
theorem d_X10_two_158 : decode M_X10_two.2.1 158 = .ok (.getfield 26, 3) := by decide +kernel
theorem d_X10_two_161 : decode M_X10_two.2.1 161 = .ok (.getfield 141, 3) := by decide +kernel
theorem d_X10_two_164 : decode M_X10_two.2.1 164 = .ok (.iload 7, 2) := by decide +kernel
theorem d_X10_two_166 : decode M_X10_two.2.1 166 = .ok (.aaload, 1) := by decide +kernel
theorem d_X10_two_167 : decode M_X10_two.2.1 167 = .ok (.aload 4, 2) := by decide +kernel
theorem d_X10_two_169 : decode M_X10_two.2.1 169 = .ok (.iconst 0, 1) := by decide +kernel
theorem d_X10_two_170 : decode M_X10_two.2.1 170 = .ok (.iload 6, 2) := by decide +kernel
theorem d_X10_two_172 : decode M_X10_two.2.1 172 = .ok (.invokestatic 229, 3) := by decide +kernel
theorem d_X10_two_175 : decode M_X10_two.2.1 175 = .ok (.invokevirtual 233, 3) := by decide +kernel
theorem d_X10_two_178 : decode M_X10_two.2.1 178 = .ok (.aload_n 0, 1) := by decide +kernel
theorem d_X10_two_179 : decode M_X10_two.2.1 179 = .ok (.iconst 4, 1) := by decide +kernel
theorem d_X10_two_180 : decode M_X10_two.2.1 180 = .ok (.iload 8, 2) := by decide +kernel
theorem d_X10_two_182 : decode M_X10_two.2.1 182 = .ok (.aload_n 0, 1) := by decide +kernel
theorem d_X10_two_183 : decode M_X10_two.2.1 183 = .ok (.getfield 26, 3) := by decide +kernel
theorem d_X10_two_186 : decode M_X10_two.2.1 186 = .ok (.getfield 141, 3) := by decide +kernel
theorem d_X10_two_189 : decode M_X10_two.2.1 189 = .ok (.iload 8, 2) := by decide +kernel
theorem d_X10_two_191 : decode M_X10_two.2.1 191 = .ok (.aaload, 1) := by decide +kernel
theorem d_X10_two_192 : decode M_X10_two.2.1 192 = .ok (.aload 4, 2) := by decide +kernel
theorem d_X10_two_194 : decode M_X10_two.2.1 194 = .ok (.iload 6, 2) := by decide +kernel
theorem d_X10_two_196 : decode M_X10_two.2.1 196 = .ok (.aload 4, 2) := by decide +kernel
theorem d_X10_two_198 : decode M_X10_two.2.1 198 = .ok (.getfield 224, 3) := by decide +kernel
theorem d_X10_two_201 : decode M_X10_two.2.1 201 = .ok (.invokestatic 229, 3) := by decide +kernel
theorem d_X10_two_204 : decode M_X10_two.2.1 204 = .ok (.invokevirtual 233, 3) := by decide +kernel
theorem d_X10_two_207 : decode M_X10_two.2.1 207 = .ok (.iinc 6 1, 3) := by decide +kernel
theorem d_X10_two_210 : decode M_X10_two.2.1 210 = .ok (.goto (-152), 3) := by decide +kernel
theorem d_X10_two_213 : decode M_X10_two.2.1 213 = .ok (.iload 5, 2) := by decide +kernel
theorem d_X10_two_215 : decode M_X10_two.2.1 215 = .ok (.ireturn, 1) := by decide +kernel
theorem ce_X10_two : zw_CeV M_X10_two 3 := ⟨⟨⟨by decide +kernel, by decide +kernel, by decide +kernel⟩, (zw_mG (List.mem_of_getElem? (i := 1069) (by decide +kernel)) rfl), (zw_mG (List.mem_of_getElem? (i := 96) (by decide +kernel)) rfl), by decide, by decide +kernel⟩, (zw_mG (List.mem_of_getElem? (i := 1067) (by decide +kernel)) rfl), (zw_mG (List.mem_of_getElem? (i := 1068) (by decide +kernel)) rfl)⟩
def j_X10_two_207_58 (v0 : Nat) (v1 : Int32) (v4 : Nat) (v5 : Int32) (v6 : Int32) (I : zI) (R : zR) : Option ((Int32 × Int32 × zI) ⊕ (Int32 × zI)) :=
  zw_let (v6 + 1 : Int32) fun x21 => (some (.inl (v5, x21, I)))
theorem j_X10_two_207_58_ok (X : zw_X) (P : Option Value → aS → Prop) (v0 : Nat) (v1 : Int32) (v4 : Nat) (v5 : Int32) (v6 : Int32) (I : zI) (R : zR) (J : zJ) (o : (Int32 × Int32 × zI) ⊕ (Int32 × zI)) (hf : j_X10_two_207_58 v0 v1 v4 v5 v6 I R = some o) (hk : (zw_se (fun t => zy_V X M_X10_two 6 P 58 [.ref v0, .int v1, .null, .null, .ref v4, .int t.1, .int t.2.1, .null, .null] [] (t.2.2, R, J)) (fun r => zy_V X M_X10_two 6 P 213 [.null, .null, .null, .null, .null, .int r.1, .null, .null, .null] [] (r.2, R, J)) o)) : zy_V X M_X10_two 6 P 207 [.ref v0, .int v1, .null, .null, .ref v4, .int v5, .int v6, .null, .null] [] (I, R, J) := by
  unfold j_X10_two_207_58 at hf
  obtain ⟨x21, ex21, hf⟩ := zw_letE hf
  refine zx_iinc (pc := 207) (x2 := x21) (L2 := [.ref v0, .int v1, .null, .null, .ref v4, .int v5, .int x21, .null, .null]) d_X10_two_207 (by decide) rfl zc_i_1 ex21 rfl ?_
  refine zv_goto (pc := 210) (tg := 58) d_X10_two_210 (by decide) ?_
  cases hf
  exact zx_weak (zw_leS (zw_leS (zw_leN (zw_leN (zw_leS (zw_leS (zw_leS (zw_leN (zw_leN zw_leZ))))))))) hk
def s_X10_two_58 (v0 : Nat) (v1 : Int32) (v4 : Nat) (R : zR) (s : Int32 × Int32 × zI) : Option ((Int32 × Int32 × zI) ⊕ (Int32 × zI)) :=
  zw_g (zw_gc v4 0) (if (s.2.2 v4 1) ≤ s.2.1 then some (.inr (s.1, s.2.2)) else zw_g (zw_gc v0 10) ((f_X10_dearestWithin v0 v1 v4 0 s.2.1 s.2.2 R).bind fun q18 => ((f_X10_dearestWithin v0 v1 v4 s.2.1 (s.2.2 v4 1) s.2.2 R).bind fun q19 => (if q18 = (-1) then j_X10_two_207_58 v0 v1 v4 s.1 s.2.1 s.2.2 R else if q19 = (-1) then j_X10_two_207_58 v0 v1 v4 s.1 s.2.1 s.2.2 R else zw_g (zw_gc (R v0 9) 13) (zw_g (zw_in q18 (zw_SH (R v0 9)).2) (zw_g (zw_in q19 (zw_SH (R v0 9)).2) (if ((s.2.2 (R v0 9) (Int32.toNatClampNeg q18)) + (s.2.2 (R v0 9) (Int32.toNatClampNeg q19))) ≤ s.1 then j_X10_two_207_58 v0 v1 v4 s.1 s.2.1 s.2.2 R else zw_g (zw_in q18 (zw_SH (R v0 9)).2) (zw_g (zw_in q19 (zw_SH (R v0 9)).2) (zw_let (((s.2.2 (R v0 9) (Int32.toNatClampNeg q18)) + (s.2.2 (R v0 9) (Int32.toNatClampNeg q19))) : Int32) fun x29 => (zw_g (zw_gc (R v0 10) 13) (zw_g (zw_in 0 (zw_SH (R v0 10)).2) (zw_let (zw_u s.2.2 (R v0 10) (Int32.toNatClampNeg 0) s.2.1 : zI) fun I32 => (zw_g (zw_gc (R v0 2) 1) (zw_g (zw_gc (R (R v0 2) 2) 16) (zw_g (zw_in q18 (zw_SH (R (R v0 2) 2)).2) (zw_g (zw_gc (R (R (R v0 2) 2) (Int32.toNatClampNeg q18)) 0) ((f_X10_firstPlace (R (R (R v0 2) 2) (Int32.toNatClampNeg q18)) v4 0 s.2.1 I32 R).bind fun q37 => ((f_X10_lay v0 1 q18 q37 I32 R).bind fun q38 => (zw_g (zw_in q19 (zw_SH (R (R v0 2) 2)).2) (zw_g (zw_gc (R (R (R v0 2) 2) (Int32.toNatClampNeg q19)) 0) ((f_X10_firstPlace (R (R (R v0 2) 2) (Int32.toNatClampNeg q19)) v4 s.2.1 (q38 v4 1) q38 R).bind fun q41 => ((f_X10_lay v0 4 q19 q41 q38 R).bind fun q42 => (j_X10_two_207_58 v0 v1 v4 x29 s.2.1 q42 R)))))))))))))))))))))))
theorem s_X10_two_58_ok (X : zw_X) (P : Option Value → aS → Prop) (v0 : Nat) (v1 : Int32) (v4 : Nat) (R : zR) (J : zJ) (s : Int32 × Int32 × zI) (o : (Int32 × Int32 × zI) ⊕ (Int32 × zI)) (hf : s_X10_two_58 v0 v1 v4 R s = some o) (hk : (zw_se (fun t => zy_V X M_X10_two 6 P 58 [.ref v0, .int v1, .null, .null, .ref v4, .int t.1, .int t.2.1, .null, .null] [] (t.2.2, R, J)) (fun r => zy_V X M_X10_two 6 P 213 [.null, .null, .null, .null, .null, .int r.1, .null, .null, .null] [] (r.2, R, J)) o)) : zy_V X M_X10_two 6 P 58 [.ref v0, .int v1, .null, .null, .ref v4, .int s.1, .int s.2.1, .null, .null] [] (s.2.2, R, J) := by
  unfold s_X10_two_58 at hf
  refine zv_iload (pc := 58) d_X10_two_58 rfl ?_
  refine zv_aload (pc := 60) d_X10_two_60 rfl ?_
  obtain ⟨g15, hf⟩ := zw_gcE hf (by decide)
  refine zx_getI (pc := 62) d_X10_two_62 lk_CutStones_224 (by decide) g15 ?_
  rcases zw_ifE hf with ⟨c16, hf⟩ | ⟨c16, hf⟩
  · refine zv_icmp_ge (pc := 65) (tg := 213) d_X10_two_65 (by decide) (fun _ => ?_) (fun q => absurd c16 q)
    cases hf
    exact zx_weak (zw_leN (zw_leN (zw_leN (zw_leN (zw_leN (zw_leS (zw_leN (zw_leN (zw_leN zw_leZ))))))))) hk
  · refine zv_icmp_ge (pc := 65) (tg := 213) d_X10_two_65 (by decide) (fun q => absurd q c16) (fun _ => ?_)
    refine zv_aload_n (pc := 68) d_X10_two_68 rfl ?_
    refine zv_iload_n (pc := 69) d_X10_two_69 rfl ?_
    refine zv_aload (pc := 70) d_X10_two_70 rfl ?_
    refine zv_iconst (pc := 72) d_X10_two_72 zc_i_0 ?_
    refine zv_iload (pc := 73) d_X10_two_73 rfl ?_
    obtain ⟨g17, hf⟩ := zw_gcE hf (by decide)
    obtain ⟨q18, hq18, hf⟩ := zw_bdE hf
    refine zx_callV (pc := 75) (As := [.int v1, .ref v4, .int 0, .int s.2.1]) (o := v0) (st := []) (d2 := 3) (M2 := M_X10_dearestWithin) (P2 := (fun r S => r = (some (.int q18)) ∧ S = (s.2.2, R, J))) d_X10_two_75 (zw_mG (List.mem_of_getElem? (i := 1055) (by decide +kernel)) rfl) ce_X10_dearestWithin (zw_RvK g17 rfl rfl) (Nat.le_of_ble_eq_true rfl) rfl (Nat.le_of_ble_eq_true rfl) (by decide) (c_X10_dearestWithin X v0 v1 v4 0 s.2.1 s.2.2 R J _ hq18 ⟨rfl, rfl⟩) ?_
    rintro _ _ ⟨rfl, rfl⟩
    show zy_V X M_X10_two 6 P (75 + 3) [.ref v0, .int v1, .null, .null, .ref v4, .int s.1, .int s.2.1, .null, .null] [.int q18] (s.2.2, R, J)
    refine zx_istore (pc := 78) (x2 := q18) (L2 := [.ref v0, .int v1, .null, .null, .ref v4, .int s.1, .int s.2.1, .int q18, .null]) d_X10_two_78 (by decide) rfl rfl ?_
    refine zv_aload_n (pc := 80) d_X10_two_80 rfl ?_
    refine zv_iload_n (pc := 81) d_X10_two_81 rfl ?_
    refine zv_aload (pc := 82) d_X10_two_82 rfl ?_
    refine zv_iload (pc := 84) d_X10_two_84 rfl ?_
    refine zv_aload (pc := 86) d_X10_two_86 rfl ?_
    refine zx_getI (pc := 88) d_X10_two_88 lk_CutStones_224 (by decide) g15 ?_
    obtain ⟨q19, hq19, hf⟩ := zw_bdE hf
    refine zx_callV (pc := 91) (As := [.int v1, .ref v4, .int s.2.1, .int (s.2.2 v4 1)]) (o := v0) (st := []) (d2 := 3) (M2 := M_X10_dearestWithin) (P2 := (fun r S => r = (some (.int q19)) ∧ S = (s.2.2, R, J))) d_X10_two_91 (zw_mG (List.mem_of_getElem? (i := 1055) (by decide +kernel)) rfl) ce_X10_dearestWithin (zw_RvK g17 rfl rfl) (Nat.le_of_ble_eq_true rfl) rfl (Nat.le_of_ble_eq_true rfl) (by decide) (c_X10_dearestWithin X v0 v1 v4 s.2.1 (s.2.2 v4 1) s.2.2 R J _ hq19 ⟨rfl, rfl⟩) ?_
    rintro _ _ ⟨rfl, rfl⟩
    show zy_V X M_X10_two 6 P (91 + 3) [.ref v0, .int v1, .null, .null, .ref v4, .int s.1, .int s.2.1, .int q18, .null] [.int q19] (s.2.2, R, J)
    refine zx_istore (pc := 94) (x2 := q19) (L2 := [.ref v0, .int v1, .null, .null, .ref v4, .int s.1, .int s.2.1, .int q18, .int q19]) d_X10_two_94 (by decide) rfl rfl ?_
    refine zv_iload (pc := 96) d_X10_two_96 rfl ?_
    refine zv_iconst (pc := 98) d_X10_two_98 zc_i_m1 ?_
    rcases zw_ifE hf with ⟨c20, hf⟩ | ⟨c20, hf⟩
    · refine zv_icmp_eq (pc := 99) (tg := 207) d_X10_two_99 (by decide) (fun _ => ?_) (fun q => absurd c20 q)
      exact zx_weak (zw_leS (zw_leS (zw_leN (zw_leN (zw_leS (zw_leS (zw_leS (zw_leN (zw_leN zw_leZ))))))))) (j_X10_two_207_58_ok X P v0 v1 v4 s.1 s.2.1 s.2.2 R J _ hf hk)
    · refine zv_icmp_eq (pc := 99) (tg := 207) d_X10_two_99 (by decide) (fun q => absurd q c20) (fun _ => ?_)
      refine zv_iload (pc := 102) d_X10_two_102 rfl ?_
      refine zv_iconst (pc := 104) d_X10_two_104 zc_i_m1 ?_
      rcases zw_ifE hf with ⟨c22, hf⟩ | ⟨c22, hf⟩
      · refine zv_icmp_eq (pc := 105) (tg := 207) d_X10_two_105 (by decide) (fun _ => ?_) (fun q => absurd c22 q)
        exact zx_weak (zw_leS (zw_leS (zw_leN (zw_leN (zw_leS (zw_leS (zw_leS (zw_leN (zw_leN zw_leZ))))))))) (j_X10_two_207_58_ok X P v0 v1 v4 s.1 s.2.1 s.2.2 R J _ hf hk)
      · refine zv_icmp_eq (pc := 105) (tg := 207) d_X10_two_105 (by decide) (fun q => absurd q c22) (fun _ => ?_)
        refine zv_aload_n (pc := 108) d_X10_two_108 rfl ?_
        obtain ⟨g23, hf⟩ := zw_gcE hf (by decide)
        refine zx_getR (pc := 109) d_X10_two_109 lk_CutStones_61 (by decide) g17 g23 ?_
        refine zv_iload (pc := 112) d_X10_two_112 rfl ?_
        obtain ⟨i24, hf⟩ := zw_inE hf
        refine zx_iald (pc := 114) d_X10_two_114 g23 i24 ?_
        refine zv_aload_n (pc := 115) d_X10_two_115 rfl ?_
        refine zx_getR (pc := 116) d_X10_two_116 lk_CutStones_61 (by decide) g17 g23 ?_
        refine zv_iload (pc := 119) d_X10_two_119 rfl ?_
        obtain ⟨i25, hf⟩ := zw_inE hf
        refine zx_iald (pc := 121) d_X10_two_121 g23 i25 ?_
        refine zv_iadd (pc := 122) d_X10_two_122 ?_
        refine zv_iload (pc := 123) d_X10_two_123 rfl ?_
        rcases zw_ifE hf with ⟨c26, hf⟩ | ⟨c26, hf⟩
        · refine zv_icmp_le (pc := 125) (tg := 207) d_X10_two_125 (by decide) (fun _ => ?_) (fun q => absurd c26 q)
          exact zx_weak (zw_leS (zw_leS (zw_leN (zw_leN (zw_leS (zw_leS (zw_leS (zw_leN (zw_leN zw_leZ))))))))) (j_X10_two_207_58_ok X P v0 v1 v4 s.1 s.2.1 s.2.2 R J _ hf hk)
        · refine zv_icmp_le (pc := 125) (tg := 207) d_X10_two_125 (by decide) (fun q => absurd q c26) (fun _ => ?_)
          refine zv_aload_n (pc := 128) d_X10_two_128 rfl ?_
          refine zx_getR (pc := 129) d_X10_two_129 lk_CutStones_61 (by decide) g17 g23 ?_
          refine zv_iload (pc := 132) d_X10_two_132 rfl ?_
          obtain ⟨i27, hf⟩ := zw_inE hf
          refine zx_iald (pc := 134) d_X10_two_134 g23 i27 ?_
          refine zv_aload_n (pc := 135) d_X10_two_135 rfl ?_
          refine zx_getR (pc := 136) d_X10_two_136 lk_CutStones_61 (by decide) g17 g23 ?_
          refine zv_iload (pc := 139) d_X10_two_139 rfl ?_
          obtain ⟨i28, hf⟩ := zw_inE hf
          refine zx_iald (pc := 141) d_X10_two_141 g23 i28 ?_
          refine zv_iadd (pc := 142) d_X10_two_142 ?_
          obtain ⟨x29, ex29, hf⟩ := zw_letE hf
          refine zx_istore (pc := 143) (x2 := x29) (L2 := [.ref v0, .int v1, .null, .null, .ref v4, .int x29, .int s.2.1, .int q18, .int q19]) d_X10_two_143 (by decide) ex29 rfl ?_
          refine zv_aload_n (pc := 145) d_X10_two_145 rfl ?_
          obtain ⟨g30, hf⟩ := zw_gcE hf (by decide)
          refine zx_getR (pc := 146) d_X10_two_146 lk_CutStones_65 (by decide) g17 g30 ?_
          refine zv_iconst (pc := 149) d_X10_two_149 zc_i_0 ?_
          refine zv_iload (pc := 150) d_X10_two_150 rfl ?_
          obtain ⟨i31, hf⟩ := zw_inE hf
          obtain ⟨I32, eI32, hf⟩ := zw_letE hf
          refine zx_iast (pc := 152) (I2 := I32) d_X10_two_152 g30 i31 eI32 ?_
          refine zv_aload_n (pc := 153) d_X10_two_153 rfl ?_
          refine zv_iconst (pc := 154) d_X10_two_154 zc_i_1 ?_
          refine zv_iload (pc := 155) d_X10_two_155 rfl ?_
          refine zv_aload_n (pc := 157) d_X10_two_157 rfl ?_
          obtain ⟨g33, hf⟩ := zw_gcE hf (by decide)
          refine zx_getR (pc := 158) d_X10_two_158 lk_CutStones_26 (by decide) g17 g33 ?_
          obtain ⟨g34, hf⟩ := zw_gcE hf (by decide)
          refine zx_getR (pc := 161) d_X10_two_161 lk_CutStones_141 (by decide) g33 g34 ?_
          refine zv_iload (pc := 164) d_X10_two_164 rfl ?_
          obtain ⟨i35, hf⟩ := zw_inE hf
          obtain ⟨g36, hf⟩ := zw_gcE hf (by decide)
          refine zx_aald (pc := 166) d_X10_two_166 g34 (by decide) i35 g36 ?_
          refine zv_aload (pc := 167) d_X10_two_167 rfl ?_
          refine zv_iconst (pc := 169) d_X10_two_169 zc_i_0 ?_
          refine zv_iload (pc := 170) d_X10_two_170 rfl ?_
          obtain ⟨q37, hq37, hf⟩ := zw_bdE hf
          refine zx_callS (pc := 172) (As := [.ref (R (R (R v0 2) 2) (Int32.toNatClampNeg q18)), .ref v4, .int 0, .int s.2.1]) (st := [.int q18, .int 1, .ref v0]) (d2 := 2) (M2 := M_X10_firstPlace) (P2 := (fun r S => r = (some (.int q37)) ∧ S = (I32, R, J))) d_X10_two_172 (zw_mG (List.mem_of_getElem? (i := 1059) (by decide +kernel)) rfl) ce_X10_firstPlace (Nat.le_of_ble_eq_true rfl) rfl (Nat.le_of_ble_eq_true rfl) (by decide) (c_X10_firstPlace X (R (R (R v0 2) 2) (Int32.toNatClampNeg q18)) v4 0 s.2.1 I32 R J _ hq37 ⟨rfl, rfl⟩) ?_
          rintro _ _ ⟨rfl, rfl⟩
          show zy_V X M_X10_two 6 P (172 + 3) [.ref v0, .int v1, .null, .null, .ref v4, .int x29, .int s.2.1, .int q18, .int q19] [.int q37, .int q18, .int 1, .ref v0] (I32, R, J)
          obtain ⟨q38, hq38, hf⟩ := zw_bdE hf
          refine zx_callV (pc := 175) (As := [.int 1, .int q18, .int q37]) (o := v0) (st := []) (d2 := 0) (M2 := M_X10_lay) (P2 := (fun r S => r = none ∧ S = (q38, R, J))) d_X10_two_175 (zw_mG (List.mem_of_getElem? (i := 1062) (by decide +kernel)) rfl) ce_X10_lay (zw_RvK g17 rfl rfl) (Nat.le_of_ble_eq_true rfl) rfl (Nat.le_of_ble_eq_true rfl) (by decide) (c_X10_lay X v0 1 q18 q37 I32 R J _ hq38 ⟨rfl, rfl⟩) ?_
          rintro _ _ ⟨rfl, rfl⟩
          show zy_V X M_X10_two 6 P (175 + 3) [.ref v0, .int v1, .null, .null, .ref v4, .int x29, .int s.2.1, .int q18, .int q19] [] (q38, R, J)
          refine zv_aload_n (pc := 178) d_X10_two_178 rfl ?_
          refine zv_iconst (pc := 179) d_X10_two_179 zc_i_4 ?_
          refine zv_iload (pc := 180) d_X10_two_180 rfl ?_
          refine zv_aload_n (pc := 182) d_X10_two_182 rfl ?_
          refine zx_getR (pc := 183) d_X10_two_183 lk_CutStones_26 (by decide) g17 g33 ?_
          refine zx_getR (pc := 186) d_X10_two_186 lk_CutStones_141 (by decide) g33 g34 ?_
          refine zv_iload (pc := 189) d_X10_two_189 rfl ?_
          obtain ⟨i39, hf⟩ := zw_inE hf
          obtain ⟨g40, hf⟩ := zw_gcE hf (by decide)
          refine zx_aald (pc := 191) d_X10_two_191 g34 (by decide) i39 g40 ?_
          refine zv_aload (pc := 192) d_X10_two_192 rfl ?_
          refine zv_iload (pc := 194) d_X10_two_194 rfl ?_
          refine zv_aload (pc := 196) d_X10_two_196 rfl ?_
          refine zx_getI (pc := 198) d_X10_two_198 lk_CutStones_224 (by decide) g15 ?_
          obtain ⟨q41, hq41, hf⟩ := zw_bdE hf
          refine zx_callS (pc := 201) (As := [.ref (R (R (R v0 2) 2) (Int32.toNatClampNeg q19)), .ref v4, .int s.2.1, .int (q38 v4 1)]) (st := [.int q19, .int 4, .ref v0]) (d2 := 2) (M2 := M_X10_firstPlace) (P2 := (fun r S => r = (some (.int q41)) ∧ S = (q38, R, J))) d_X10_two_201 (zw_mG (List.mem_of_getElem? (i := 1059) (by decide +kernel)) rfl) ce_X10_firstPlace (Nat.le_of_ble_eq_true rfl) rfl (Nat.le_of_ble_eq_true rfl) (by decide) (c_X10_firstPlace X (R (R (R v0 2) 2) (Int32.toNatClampNeg q19)) v4 s.2.1 (q38 v4 1) q38 R J _ hq41 ⟨rfl, rfl⟩) ?_
          rintro _ _ ⟨rfl, rfl⟩
          show zy_V X M_X10_two 6 P (201 + 3) [.ref v0, .int v1, .null, .null, .ref v4, .int x29, .int s.2.1, .int q18, .int q19] [.int q41, .int q19, .int 4, .ref v0] (q38, R, J)
          obtain ⟨q42, hq42, hf⟩ := zw_bdE hf
          refine zx_callV (pc := 204) (As := [.int 4, .int q19, .int q41]) (o := v0) (st := []) (d2 := 0) (M2 := M_X10_lay) (P2 := (fun r S => r = none ∧ S = (q42, R, J))) d_X10_two_204 (zw_mG (List.mem_of_getElem? (i := 1062) (by decide +kernel)) rfl) ce_X10_lay (zw_RvK g17 rfl rfl) (Nat.le_of_ble_eq_true rfl) rfl (Nat.le_of_ble_eq_true rfl) (by decide) (c_X10_lay X v0 4 q19 q41 q38 R J _ hq42 ⟨rfl, rfl⟩) ?_
          rintro _ _ ⟨rfl, rfl⟩
          show zy_V X M_X10_two 6 P (204 + 3) [.ref v0, .int v1, .null, .null, .ref v4, .int x29, .int s.2.1, .int q18, .int q19] [] (q42, R, J)
          exact zx_weak (zw_leS (zw_leS (zw_leN (zw_leN (zw_leS (zw_leS (zw_leS (zw_leN (zw_leN zw_leZ))))))))) (j_X10_two_207_58_ok X P v0 v1 v4 x29 s.2.1 q42 R J _ hf hk)
theorem s_X10_two_58_lp (X : zw_X) (P : Option Value → aS → Prop) (v0 : Nat) (v1 : Int32) (v4 : Nat) (R : zR) (J : zJ) (n : Nat) (s : Int32 × Int32 × zI) (r : Int32 × zI) (h : zw_it (s_X10_two_58 v0 v1 v4 R) n s = some r) (hq : zy_V X M_X10_two 6 P 213 [.null, .null, .null, .null, .null, .int r.1, .null, .null, .null] [] (r.2, R, J)) : zy_V X M_X10_two 6 P 58 [.ref v0, .int v1, .null, .null, .ref v4, .int s.1, .int s.2.1, .null, .null] [] (s.2.2, R, J) :=
  zw_itE (A := (fun t : Int32 × Int32 × zI => zy_V X M_X10_two 6 P 58 [.ref v0, .int v1, .null, .null, .ref v4, .int t.1, .int t.2.1, .null, .null] [] (t.2.2, R, J))) (Q := (fun r : Int32 × zI => zy_V X M_X10_two 6 P 213 [.null, .null, .null, .null, .null, .int r.1, .null, .null, .null] [] (r.2, R, J))) (fun s o h1 h2 => s_X10_two_58_ok X P v0 v1 v4 R J s o h1 h2) n s r h hq
def f_X10_two (v0 : Nat) (v1 : Int32) (v2 : Int32) (v3 : Int32) (I : zI) (R : zR) : Option (Int32 × zI) :=
  zw_g (zw_gc v0 10) ((f_X10_areCuts v0 v1 I R).bind fun q2 => (if q2 = 0 then some ((-1), I) else (f_X10_isRough v0 v2 I R).bind fun q4 => (if q4 = 0 then some ((-1), I) else (f_X10_isStuff v0 v3 I R).bind fun q6 => (if ¬ q6 = 0 then (f_X10_findPrices v0 v1 v3 I R).bind fun q8 => (zw_g (zw_gc (R v0 10) 13) ((f_J7_fill_53178 (R v0 10) (-1) q8).bind fun q10 => (zw_g (zw_gc (R v0 2) 1) (zw_g (zw_gc (R (R v0 2) 4) 16) (zw_g (zw_in v2 (zw_SH (R (R v0 2) 4)).2) (zw_g (zw_gc (R (R (R v0 2) 4) (Int32.toNatClampNeg v2)) 0) ((zw_it (s_X10_two_58 v0 v1 (R (R (R v0 2) 4) (Int32.toNatClampNeg v2)) R) 1000000 ((-2), 1, q10)).bind fun q43 => (some (q43.1, q43.2))))))))) else some ((-1), I)))))
theorem c_X10_two (X : zw_X) (v0 : Nat) (v1 : Int32) (v2 : Int32) (v3 : Int32) (I : zI) (R : zR) (J : zJ) {P : Option Value → aS → Prop} (o : Int32 × zI) (hf : f_X10_two v0 v1 v2 v3 I R = some o) (hk : P (some (.int o.1)) (o.2, R, J)) : zw_C X M_X10_two 6 0 0 199 [.ref v0, .int v1, .int v2, .int v3] (I, R, J) P := by
  show zy_V X M_X10_two 6 P 0 [.ref v0, .int v1, .int v2, .int v3, .null, .null, .null, .null, .null] [] (I, R, J)
  unfold f_X10_two at hf
  refine zv_aload_n (pc := 0) d_X10_two_0 rfl ?_
  refine zv_iload_n (pc := 1) d_X10_two_1 rfl ?_
  obtain ⟨g1, hf⟩ := zw_gcE hf (by decide)
  obtain ⟨q2, hq2, hf⟩ := zw_bdE hf
  refine zx_callV (pc := 2) (As := [.int v1]) (o := v0) (st := []) (d2 := 0) (M2 := M_X10_areCuts) (P2 := (fun r S => r = (some (.int q2)) ∧ S = (I, R, J))) d_X10_two_2 (zw_mG (List.mem_of_getElem? (i := 1046) (by decide +kernel)) rfl) ce_X10_areCuts (zw_RvK g1 rfl rfl) (Nat.le_of_ble_eq_true rfl) rfl (Nat.le_of_ble_eq_true rfl) (by decide) (c_X10_areCuts X v0 v1 I R J _ hq2 ⟨rfl, rfl⟩) ?_
  rintro _ _ ⟨rfl, rfl⟩
  show zy_V X M_X10_two 6 P (2 + 3) [.ref v0, .int v1, .int v2, .int v3, .null, .null, .null, .null, .null] [.int q2] (I, R, J)
  rcases zw_ifE hf with ⟨c3, hf⟩ | ⟨c3, hf⟩
  · refine zv_if_eq (pc := 5) (tg := 24) d_X10_two_5 (by decide) (fun _ => ?_) (fun q => absurd c3 q)
    refine zv_iconst (pc := 24) d_X10_two_24 zc_i_m1 ?_
    cases hf
    exact zx_iret (pc := 25) d_X10_two_25 rfl hk
  · refine zv_if_eq (pc := 5) (tg := 24) d_X10_two_5 (by decide) (fun q => absurd q c3) (fun _ => ?_)
    refine zv_aload_n (pc := 8) d_X10_two_8 rfl ?_
    refine zv_iload_n (pc := 9) d_X10_two_9 rfl ?_
    obtain ⟨q4, hq4, hf⟩ := zw_bdE hf
    refine zx_callV (pc := 10) (As := [.int v2]) (o := v0) (st := []) (d2 := 0) (M2 := M_X10_isRough) (P2 := (fun r S => r = (some (.int q4)) ∧ S = (I, R, J))) d_X10_two_10 (zw_mG (List.mem_of_getElem? (i := 845) (by decide +kernel)) rfl) ce_X10_isRough (zw_RvK g1 rfl rfl) (Nat.le_of_ble_eq_true rfl) rfl (Nat.le_of_ble_eq_true rfl) (by decide) (c_X10_isRough X v0 v2 I R J _ hq4 ⟨rfl, rfl⟩) ?_
    rintro _ _ ⟨rfl, rfl⟩
    show zy_V X M_X10_two 6 P (10 + 3) [.ref v0, .int v1, .int v2, .int v3, .null, .null, .null, .null, .null] [.int q4] (I, R, J)
    rcases zw_ifE hf with ⟨c5, hf⟩ | ⟨c5, hf⟩
    · refine zv_if_eq (pc := 13) (tg := 24) d_X10_two_13 (by decide) (fun _ => ?_) (fun q => absurd c5 q)
      refine zv_iconst (pc := 24) d_X10_two_24 zc_i_m1 ?_
      cases hf
      exact zx_iret (pc := 25) d_X10_two_25 rfl hk
    · refine zv_if_eq (pc := 13) (tg := 24) d_X10_two_13 (by decide) (fun q => absurd q c5) (fun _ => ?_)
      refine zv_aload_n (pc := 16) d_X10_two_16 rfl ?_
      refine zv_iload_n (pc := 17) d_X10_two_17 rfl ?_
      obtain ⟨q6, hq6, hf⟩ := zw_bdE hf
      refine zx_callV (pc := 18) (As := [.int v3]) (o := v0) (st := []) (d2 := 0) (M2 := M_X10_isStuff) (P2 := (fun r S => r = (some (.int q6)) ∧ S = (I, R, J))) d_X10_two_18 (zw_mG (List.mem_of_getElem? (i := 880) (by decide +kernel)) rfl) ce_X10_isStuff (zw_RvK g1 rfl rfl) (Nat.le_of_ble_eq_true rfl) rfl (Nat.le_of_ble_eq_true rfl) (by decide) (c_X10_isStuff X v0 v3 I R J _ hq6 ⟨rfl, rfl⟩) ?_
      rintro _ _ ⟨rfl, rfl⟩
      show zy_V X M_X10_two 6 P (18 + 3) [.ref v0, .int v1, .int v2, .int v3, .null, .null, .null, .null, .null] [.int q6] (I, R, J)
      rcases zw_ifE hf with ⟨c7, hf⟩ | ⟨c7, hf⟩
      · refine zv_if_ne (pc := 21) (tg := 26) d_X10_two_21 (by decide) (fun _ => ?_) (fun q => absurd q c7)
        refine zv_aload_n (pc := 26) d_X10_two_26 rfl ?_
        refine zv_iload_n (pc := 27) d_X10_two_27 rfl ?_
        refine zv_iload_n (pc := 28) d_X10_two_28 rfl ?_
        obtain ⟨q8, hq8, hf⟩ := zw_bdE hf
        refine zx_callV (pc := 29) (As := [.int v1, .int v3]) (o := v0) (st := []) (d2 := 5) (M2 := M_X10_findPrices) (P2 := (fun r S => r = none ∧ S = (q8, R, J))) d_X10_two_29 (zw_mG (List.mem_of_getElem? (i := 1050) (by decide +kernel)) rfl) ce_X10_findPrices (zw_RvK g1 rfl rfl) (Nat.le_of_ble_eq_true rfl) rfl (Nat.le_of_ble_eq_true rfl) (by decide) (c_X10_findPrices X v0 v1 v3 I R J _ hq8 ⟨rfl, rfl⟩) ?_
        rintro _ _ ⟨rfl, rfl⟩
        show zy_V X M_X10_two 6 P (29 + 3) [.ref v0, .int v1, .int v2, .int v3, .null, .null, .null, .null, .null] [] (q8, R, J)
        refine zv_aload_n (pc := 32) d_X10_two_32 rfl ?_
        obtain ⟨g9, hf⟩ := zw_gcE hf (by decide)
        refine zx_getR (pc := 33) d_X10_two_33 lk_CutStones_65 (by decide) g1 g9 ?_
        refine zv_iconst (pc := 36) d_X10_two_36 zc_i_m1 ?_
        obtain ⟨q10, hq10, hf⟩ := zw_bdE hf
        refine zx_callS (pc := 37) (As := [.ref (R v0 10), .int (-1)]) (st := []) (d2 := 0) (M2 := M_J7_fill_53178) (P2 := (fun r S => r = none ∧ S = (q10, R, J))) d_X10_two_37 (zw_mG (List.mem_of_getElem? (i := 478) (by decide +kernel)) rfl) ce_J7_fill_53178 (Nat.le_of_ble_eq_true rfl) rfl (Nat.le_of_ble_eq_true rfl) (by decide) (c_J7_fill_53178 X (R v0 10) (-1) q8 R J _ hq10 ⟨rfl, rfl⟩) ?_
        rintro _ _ ⟨rfl, rfl⟩
        show zy_V X M_X10_two 6 P (37 + 3) [.ref v0, .int v1, .int v2, .int v3, .null, .null, .null, .null, .null] [] (q10, R, J)
        refine zv_aload_n (pc := 40) d_X10_two_40 rfl ?_
        obtain ⟨g11, hf⟩ := zw_gcE hf (by decide)
        refine zx_getR (pc := 41) d_X10_two_41 lk_CutStones_26 (by decide) g1 g11 ?_
        obtain ⟨g12, hf⟩ := zw_gcE hf (by decide)
        refine zx_getR (pc := 44) d_X10_two_44 lk_CutStones_211 (by decide) g11 g12 ?_
        refine zv_iload_n (pc := 47) d_X10_two_47 rfl ?_
        obtain ⟨i13, hf⟩ := zw_inE hf
        obtain ⟨g14, hf⟩ := zw_gcE hf (by decide)
        refine zx_aald (pc := 48) d_X10_two_48 g12 (by decide) i13 g14 ?_
        refine zx_astore (pc := 49) (L2 := [.ref v0, .int v1, .int v2, .int v3, .ref (R (R (R v0 2) 4) (Int32.toNatClampNeg v2)), .null, .null, .null, .null]) d_X10_two_49 (by decide) rfl ?_
        refine zv_bipush (pc := 51) d_X10_two_51 zc_b_m2 ?_
        refine zx_istore (pc := 53) (x2 := (-2)) (L2 := [.ref v0, .int v1, .int v2, .int v3, .ref (R (R (R v0 2) 4) (Int32.toNatClampNeg v2)), .int (-2), .null, .null, .null]) d_X10_two_53 (by decide) rfl rfl ?_
        refine zv_iconst (pc := 55) d_X10_two_55 zc_i_1 ?_
        refine zx_istore (pc := 56) (x2 := 1) (L2 := [.ref v0, .int v1, .int v2, .int v3, .ref (R (R (R v0 2) 4) (Int32.toNatClampNeg v2)), .int (-2), .int 1, .null, .null]) d_X10_two_56 (by decide) rfl rfl ?_
        obtain ⟨q43, hq43, hf⟩ := zw_bdE hf
        refine zx_weak (L' := [.ref v0, .int v1, .null, .null, .ref (R (R (R v0 2) 4) (Int32.toNatClampNeg v2)), .int (-2), .int 1, .null, .null]) (zw_leS (zw_leS (zw_leN (zw_leN (zw_leS (zw_leS (zw_leS (zw_leN (zw_leN zw_leZ))))))))) (s_X10_two_58_lp X P v0 v1 (R (R (R v0 2) 4) (Int32.toNatClampNeg v2)) R J _ _ _ hq43 ?_)
        show zy_V X M_X10_two 6 P 213 [.null, .null, .null, .null, .null, .int q43.1, .null, .null, .null] [] (q43.2, R, J)
        refine zv_iload (pc := 213) d_X10_two_213 rfl ?_
        cases hf
        exact zx_iret (pc := 215) d_X10_two_215 rfl hk
      · refine zv_if_ne (pc := 21) (tg := 26) d_X10_two_21 (by decide) (fun q => absurd q c7) (fun _ => ?_)
        refine zv_iconst (pc := 24) d_X10_two_24 zc_i_m1 ?_
        cases hf
        exact zx_iret (pc := 25) d_X10_two_25 rfl hk
abbrev M_X11_barredBy : zw_M := (⟨"CutStonesModel", "barredBy", "(II)I"⟩, prog_13_method_82_code, 5, (Option.some Jvm.ClassFile.FieldType.int))
theorem d_X11_barredBy_0 : decode M_X11_barredBy.2.1 0 = .ok (.iconst 0, 1) := by decide +kernel
theorem d_X11_barredBy_1 : decode M_X11_barredBy.2.1 1 = .ok (.istore_n 3, 1) := by decide +kernel
theorem d_X11_barredBy_2 : decode M_X11_barredBy.2.1 2 = .ok (.iload_n 3, 1) := by decide +kernel
theorem d_X11_barredBy_3 : decode M_X11_barredBy.2.1 3 = .ok (.iload_n 2, 1) := by decide +kernel
theorem d_X11_barredBy_4 : decode M_X11_barredBy.2.1 4 = .ok (.if_icmp .ge 85, 3) := by decide +kernel
theorem d_X11_barredBy_7 : decode M_X11_barredBy.2.1 7 = .ok (.aload_n 0, 1) := by decide +kernel
theorem d_X11_barredBy_8 : decode M_X11_barredBy.2.1 8 = .ok (.getfield 161, 3) := by decide +kernel
theorem d_X11_barredBy_11 : decode M_X11_barredBy.2.1 11 = .ok (.iload_n 3, 1) := by decide +kernel
theorem d_X11_barredBy_12 : decode M_X11_barredBy.2.1 12 = .ok (.iaload, 1) := by decide +kernel
theorem d_X11_barredBy_13 : decode M_X11_barredBy.2.1 13 = .ok (.iconst (-1), 1) := by decide +kernel
theorem d_X11_barredBy_14 : decode M_X11_barredBy.2.1 14 = .ok (.if_icmp .ne 69, 3) := by decide +kernel
theorem d_X11_barredBy_17 : decode M_X11_barredBy.2.1 17 = .ok (.aload_n 0, 1) := by decide +kernel
theorem d_X11_barredBy_18 : decode M_X11_barredBy.2.1 18 = .ok (.iload_n 3, 1) := by decide +kernel
theorem d_X11_barredBy_19 : decode M_X11_barredBy.2.1 19 = .ok (.iload_n 2, 1) := by decide +kernel
theorem d_X11_barredBy_20 : decode M_X11_barredBy.2.1 20 = .ok (.invokevirtual 446, 3) := by decide +kernel
theorem d_X11_barredBy_23 : decode M_X11_barredBy.2.1 23 = .ok (.ifCond .eq 6, 3) := by decide +kernel
theorem d_X11_barredBy_26 : decode M_X11_barredBy.2.1 26 = .ok (.goto 57, 3) := by decide +kernel
theorem d_X11_barredBy_29 : decode M_X11_barredBy.2.1 29 = .ok (.aload_n 0, 1) := by decide +kernel
theorem d_X11_barredBy_30 : decode M_X11_barredBy.2.1 30 = .ok (.getfield 170, 3) := by decide +kernel
theorem d_X11_barredBy_33 : decode M_X11_barredBy.2.1 33 = .ok (.iload_n 3, 1) := by decide +kernel
theorem d_X11_barredBy_34 : decode M_X11_barredBy.2.1 34 = .ok (.iaload, 1) := by decide +kernel
theorem d_X11_barredBy_35 : decode M_X11_barredBy.2.1 35 = .ok (.aload_n 0, 1) := by decide +kernel
theorem d_X11_barredBy_36 : decode M_X11_barredBy.2.1 36 = .ok (.aload_n 0, 1) := by decide +kernel
theorem d_X11_barredBy_37 : decode M_X11_barredBy.2.1 37 = .ok (.getfield 164, 3) := by decide +kernel
theorem d_X11_barredBy_40 : decode M_X11_barredBy.2.1 40 = .ok (.iload_n 3, 1) := by decide +kernel
theorem d_X11_barredBy_41 : decode M_X11_barredBy.2.1 41 = .ok (.iaload, 1) := by decide +kernel
theorem d_X11_barredBy_42 : decode M_X11_barredBy.2.1 42 = .ok (.iload_n 1, 1) := by decide +kernel
theorem d_X11_barredBy_43 : decode M_X11_barredBy.2.1 43 = .ok (.aload_n 0, 1) := by decide +kernel
theorem d_X11_barredBy_44 : decode M_X11_barredBy.2.1 44 = .ok (.getfield 167, 3) := by decide +kernel
theorem d_X11_barredBy_47 : decode M_X11_barredBy.2.1 47 = .ok (.iload_n 3, 1) := by decide +kernel
theorem d_X11_barredBy_48 : decode M_X11_barredBy.2.1 48 = .ok (.iaload, 1) := by decide +kernel
theorem d_X11_barredBy_49 : decode M_X11_barredBy.2.1 49 = .ok (.invokevirtual 443, 3) := by decide +kernel
theorem d_X11_barredBy_52 : decode M_X11_barredBy.2.1 52 = .ok (.isub, 1) := by decide +kernel
theorem d_X11_barredBy_53 : decode M_X11_barredBy.2.1 53 = .ok (.istore 4, 2) := by decide +kernel
theorem d_X11_barredBy_55 : decode M_X11_barredBy.2.1 55 = .ok (.iload 4, 2) := by decide +kernel
theorem d_X11_barredBy_57 : decode M_X11_barredBy.2.1 57 = .ok (.ifCond .ge 8, 3) := by decide +kernel
theorem d_X11_barredBy_60 : decode M_X11_barredBy.2.1 60 = .ok (.iload 4, 2) := by decide +kernel
theorem d_X11_barredBy_62 : decode M_X11_barredBy.2.1 62 = .ok (.ineg, 1) := by decide +kernel
theorem d_X11_barredBy_63 : decode M_X11_barredBy.2.1 63 = .ok (.istore 4, 2) := by decide +kernel
theorem d_X11_barredBy_65 : decode M_X11_barredBy.2.1 65 = .ok (.iload 4, 2) := by decide +kernel
theorem d_X11_barredBy_67 : decode M_X11_barredBy.2.1 67 = .ok (.aload_n 0, 1) := by decide +kernel
theorem d_X11_barredBy_68 : decode M_X11_barredBy.2.1 68 = .ok (.getfield 170, 3) := by decide +kernel
theorem d_X11_barredBy_71 : decode M_X11_barredBy.2.1 71 = .ok (.iload_n 3, 1) := by decide +kernel
theorem d_X11_barredBy_72 : decode M_X11_barredBy.2.1 72 = .ok (.iaload, 1) := by decide +kernel
theorem d_X11_barredBy_73 : decode M_X11_barredBy.2.1 73 = .ok (.bipush 20, 2) := by decide +kernel
theorem d_X11_barredBy_75 : decode M_X11_barredBy.2.1 75 = .ok (.idiv, 1) := by decide +kernel
theorem d_X11_barredBy_76 : decode M_X11_barredBy.2.1 76 = .ok (.iconst 5, 1) := by decide +kernel
theorem d_X11_barredBy_77 : decode M_X11_barredBy.2.1 77 = .ok (.iadd, 1) := by decide +kernel
theorem d_X11_barredBy_78 : decode M_X11_barredBy.2.1 78 = .ok (.if_icmp .le 5, 3) := by decide +kernel
theorem d_X11_barredBy_81 : decode M_X11_barredBy.2.1 81 = .ok (.iload_n 3, 1) := by decide +kernel
theorem d_X11_barredBy_82 : decode M_X11_barredBy.2.1 82 = .ok (.ireturn, 1) := by decide +kernel
theorem d_X11_barredBy_83 : decode M_X11_barredBy.2.1 83 = .ok (.iinc 3 1, 3) := by decide +kernel
theorem d_X11_barredBy_86 : decode M_X11_barredBy.2.1 86 = .ok (.goto (-84), 3) := by decide +kernel
theorem d_X11_barredBy_89 : decode M_X11_barredBy.2.1 89 = .ok (.iconst (-1), 1) := by decide +kernel
theorem d_X11_barredBy_90 : decode M_X11_barredBy.2.1 90 = .ok (.ireturn, 1) := by decide +kernel
theorem ce_X11_barredBy : zw_CeV M_X11_barredBy 2 := ⟨⟨⟨by decide +kernel, by decide +kernel, by decide +kernel⟩, (zw_mG (List.mem_of_getElem? (i := 1708) (by decide +kernel)) rfl), (zw_mG (List.mem_of_getElem? (i := 108) (by decide +kernel)) rfl), by decide, by decide +kernel⟩, (zw_mG (List.mem_of_getElem? (i := 1707) (by decide +kernel)) rfl), (zw_mG (List.mem_of_getElem? (i := 92) (by decide +kernel)) rfl)⟩
def j_X11_barredBy_83_2 (v0 : Nat) (v1 : Int32) (v2 : Int32) (v3 : Int32) (I : zI) (R : zR) : Option ((Int32 × zI) ⊕ ((zI) ⊕ (Int32 × zI))) :=
  zw_let (v3 + 1 : Int32) fun x6 => (some (.inl (x6, I)))
theorem j_X11_barredBy_83_2_ok (X : zw_X) (P : Option Value → aS → Prop) (v0 : Nat) (v1 : Int32) (v2 : Int32) (v3 : Int32) (I : zI) (R : zR) (J : zJ) (o : (Int32 × zI) ⊕ ((zI) ⊕ (Int32 × zI))) (hf : j_X11_barredBy_83_2 v0 v1 v2 v3 I R = some o) (hk : (zw_se (fun t => zy_V X M_X11_barredBy 6 P 2 [.ref v0, .int v1, .int v2, .int t.1, .null] [] (t.2, R, J)) (fun r => (zw_se (fun r0 => zy_V X M_X11_barredBy 6 P 89 [.null, .null, .null, .null, .null] [] (r0, R, J)) (fun t0 => zy_V X M_X11_barredBy 6 P 81 [.null, .null, .null, .int t0.1, .null] [] (t0.2, R, J)) r)) o)) : zy_V X M_X11_barredBy 6 P 83 [.ref v0, .int v1, .int v2, .int v3, .null] [] (I, R, J) := by
  unfold j_X11_barredBy_83_2 at hf
  obtain ⟨x6, ex6, hf⟩ := zw_letE hf
  refine zx_iinc (pc := 83) (x2 := x6) (L2 := [.ref v0, .int v1, .int v2, .int x6, .null]) d_X11_barredBy_83 (by decide) rfl zc_i_1 ex6 rfl ?_
  refine zv_goto (pc := 86) (tg := 2) d_X11_barredBy_86 (by decide) ?_
  cases hf
  exact zx_weak (zw_leS (zw_leS (zw_leS (zw_leS (zw_leN zw_leZ))))) hk
def j_X11_barredBy_65_2 (v0 : Nat) (v1 : Int32) (v2 : Int32) (v3 : Int32) (v4 : Int32) (I : zI) (R : zR) : Option ((Int32 × zI) ⊕ ((zI) ⊕ (Int32 × zI))) :=
  zw_g (zw_gc v0 11) (zw_g (zw_gc (R v0 79) 13) (zw_g (zw_in v3 (zw_SH (R v0 79)).2) (if v4 ≤ (((I (R v0 79) (Int32.toNatClampNeg v3)) / 20) + 5) then j_X11_barredBy_83_2 v0 v1 v2 v3 I R else some (.inr (.inr (v3, I))))))
theorem j_X11_barredBy_65_2_ok (X : zw_X) (P : Option Value → aS → Prop) (v0 : Nat) (v1 : Int32) (v2 : Int32) (v3 : Int32) (v4 : Int32) (I : zI) (R : zR) (J : zJ) (o : (Int32 × zI) ⊕ ((zI) ⊕ (Int32 × zI))) (hf : j_X11_barredBy_65_2 v0 v1 v2 v3 v4 I R = some o) (hk : (zw_se (fun t => zy_V X M_X11_barredBy 6 P 2 [.ref v0, .int v1, .int v2, .int t.1, .null] [] (t.2, R, J)) (fun r => (zw_se (fun r0 => zy_V X M_X11_barredBy 6 P 89 [.null, .null, .null, .null, .null] [] (r0, R, J)) (fun t0 => zy_V X M_X11_barredBy 6 P 81 [.null, .null, .null, .int t0.1, .null] [] (t0.2, R, J)) r)) o)) : zy_V X M_X11_barredBy 6 P 65 [.ref v0, .int v1, .int v2, .int v3, .int v4] [] (I, R, J) := by
  unfold j_X11_barredBy_65_2 at hf
  refine zv_iload (pc := 65) d_X11_barredBy_65 rfl ?_
  refine zv_aload_n (pc := 67) d_X11_barredBy_67 rfl ?_
  obtain ⟨g18, hf⟩ := zw_gcE hf (by decide)
  obtain ⟨g19, hf⟩ := zw_gcE hf (by decide)
  refine zx_getR (pc := 68) d_X11_barredBy_68 lk_CutStonesModel_170 (by decide) g18 g19 ?_
  refine zv_iload_n (pc := 71) d_X11_barredBy_71 rfl ?_
  obtain ⟨i20, hf⟩ := zw_inE hf
  refine zx_iald (pc := 72) d_X11_barredBy_72 g19 i20 ?_
  refine zv_bipush (pc := 73) d_X11_barredBy_73 zc_b_20 ?_
  refine zv_idiv (pc := 75) d_X11_barredBy_75 (by decide +kernel) ?_
  refine zv_iconst (pc := 76) d_X11_barredBy_76 zc_i_5 ?_
  refine zv_iadd (pc := 77) d_X11_barredBy_77 ?_
  rcases zw_ifE hf with ⟨c21, hf⟩ | ⟨c21, hf⟩
  · refine zv_icmp_le (pc := 78) (tg := 83) d_X11_barredBy_78 (by decide) (fun _ => ?_) (fun q => absurd c21 q)
    exact zx_weak (zw_leS (zw_leS (zw_leS (zw_leS (zw_leN zw_leZ))))) (j_X11_barredBy_83_2_ok X P v0 v1 v2 v3 I R J _ hf hk)
  · refine zv_icmp_le (pc := 78) (tg := 83) d_X11_barredBy_78 (by decide) (fun q => absurd q c21) (fun _ => ?_)
    cases hf
    exact zx_weak (zw_leN (zw_leN (zw_leN (zw_leS (zw_leN zw_leZ))))) hk
def s_X11_barredBy_2 (v0 : Nat) (v1 : Int32) (v2 : Int32) (R : zR) (s : Int32 × zI) : Option ((Int32 × zI) ⊕ ((zI) ⊕ (Int32 × zI))) :=
  if v2 ≤ s.1 then some (.inr (.inl s.2)) else zw_g (zw_gc v0 11) (zw_g (zw_gc (R v0 76) 13) (zw_g (zw_in s.1 (zw_SH (R v0 76)).2) (if ¬ (s.2 (R v0 76) (Int32.toNatClampNeg s.1)) = (-1) then j_X11_barredBy_83_2 v0 v1 v2 s.1 s.2 R else (f_X11_isVoid v0 s.1 v2 s.2 R).bind fun q7 => (if q7 = 0 then zw_g (zw_gc (R v0 79) 13) (zw_g (zw_in s.1 (zw_SH (R v0 79)).2) (zw_g (zw_gc (R v0 77) 13) (zw_g (zw_in s.1 (zw_SH (R v0 77)).2) (zw_g (zw_gc (R v0 78) 13) (zw_g (zw_in s.1 (zw_SH (R v0 78)).2) ((f_X11_brightOf v0 (s.2 (R v0 77) (Int32.toNatClampNeg s.1)) v1 (s.2 (R v0 78) (Int32.toNatClampNeg s.1)) s.2 R).bind fun q15 => (zw_let (((s.2 (R v0 79) (Int32.toNatClampNeg s.1)) - q15.1) : Int32) fun x16 => (if 0 ≤ x16 then j_X11_barredBy_65_2 v0 v1 v2 s.1 x16 q15.2 R else zw_let ((-x16) : Int32) fun x22 => (j_X11_barredBy_65_2 v0 v1 v2 s.1 x22 q15.2 R))))))))) else j_X11_barredBy_83_2 v0 v1 v2 s.1 s.2 R))))
theorem s_X11_barredBy_2_ok (X : zw_X) (P : Option Value → aS → Prop) (v0 : Nat) (v1 : Int32) (v2 : Int32) (R : zR) (J : zJ) (s : Int32 × zI) (o : (Int32 × zI) ⊕ ((zI) ⊕ (Int32 × zI))) (hf : s_X11_barredBy_2 v0 v1 v2 R s = some o) (hk : (zw_se (fun t => zy_V X M_X11_barredBy 6 P 2 [.ref v0, .int v1, .int v2, .int t.1, .null] [] (t.2, R, J)) (fun r => (zw_se (fun r0 => zy_V X M_X11_barredBy 6 P 89 [.null, .null, .null, .null, .null] [] (r0, R, J)) (fun t0 => zy_V X M_X11_barredBy 6 P 81 [.null, .null, .null, .int t0.1, .null] [] (t0.2, R, J)) r)) o)) : zy_V X M_X11_barredBy 6 P 2 [.ref v0, .int v1, .int v2, .int s.1, .null] [] (s.2, R, J) := by
  unfold s_X11_barredBy_2 at hf
  refine zv_iload_n (pc := 2) d_X11_barredBy_2 rfl ?_
  refine zv_iload_n (pc := 3) d_X11_barredBy_3 rfl ?_
  rcases zw_ifE hf with ⟨c1, hf⟩ | ⟨c1, hf⟩
  · refine zv_icmp_ge (pc := 4) (tg := 89) d_X11_barredBy_4 (by decide) (fun _ => ?_) (fun q => absurd c1 q)
    cases hf
    exact zx_weak (zw_leN (zw_leN (zw_leN (zw_leN (zw_leN zw_leZ))))) hk
  · refine zv_icmp_ge (pc := 4) (tg := 89) d_X11_barredBy_4 (by decide) (fun q => absurd q c1) (fun _ => ?_)
    refine zv_aload_n (pc := 7) d_X11_barredBy_7 rfl ?_
    obtain ⟨g2, hf⟩ := zw_gcE hf (by decide)
    obtain ⟨g3, hf⟩ := zw_gcE hf (by decide)
    refine zx_getR (pc := 8) d_X11_barredBy_8 lk_CutStonesModel_161 (by decide) g2 g3 ?_
    refine zv_iload_n (pc := 11) d_X11_barredBy_11 rfl ?_
    obtain ⟨i4, hf⟩ := zw_inE hf
    refine zx_iald (pc := 12) d_X11_barredBy_12 g3 i4 ?_
    refine zv_iconst (pc := 13) d_X11_barredBy_13 zc_i_m1 ?_
    rcases zw_ifE hf with ⟨c5, hf⟩ | ⟨c5, hf⟩
    · refine zv_icmp_ne (pc := 14) (tg := 83) d_X11_barredBy_14 (by decide) (fun _ => ?_) (fun q => absurd q c5)
      exact zx_weak (zw_leS (zw_leS (zw_leS (zw_leS (zw_leN zw_leZ))))) (j_X11_barredBy_83_2_ok X P v0 v1 v2 s.1 s.2 R J _ hf hk)
    · refine zv_icmp_ne (pc := 14) (tg := 83) d_X11_barredBy_14 (by decide) (fun q => absurd q c5) (fun _ => ?_)
      refine zv_aload_n (pc := 17) d_X11_barredBy_17 rfl ?_
      refine zv_iload_n (pc := 18) d_X11_barredBy_18 rfl ?_
      refine zv_iload_n (pc := 19) d_X11_barredBy_19 rfl ?_
      obtain ⟨q7, hq7, hf⟩ := zw_bdE hf
      refine zx_callV (pc := 20) (As := [.int s.1, .int v2]) (o := v0) (st := []) (d2 := 0) (M2 := M_X11_isVoid) (P2 := (fun r S => r = (some (.int q7)) ∧ S = (s.2, R, J))) d_X11_barredBy_20 (zw_mG (List.mem_of_getElem? (i := 1709) (by decide +kernel)) rfl) ce_X11_isVoid (zw_RvK g2 rfl rfl) (Nat.le_of_ble_eq_true rfl) rfl (Nat.le_of_ble_eq_true rfl) (by decide) (c_X11_isVoid X v0 s.1 v2 s.2 R J _ hq7 ⟨rfl, rfl⟩) ?_
      rintro _ _ ⟨rfl, rfl⟩
      show zy_V X M_X11_barredBy 6 P (20 + 3) [.ref v0, .int v1, .int v2, .int s.1, .null] [.int q7] (s.2, R, J)
      rcases zw_ifE hf with ⟨c8, hf⟩ | ⟨c8, hf⟩
      · refine zv_if_eq (pc := 23) (tg := 29) d_X11_barredBy_23 (by decide) (fun _ => ?_) (fun q => absurd c8 q)
        refine zv_aload_n (pc := 29) d_X11_barredBy_29 rfl ?_
        obtain ⟨g9, hf⟩ := zw_gcE hf (by decide)
        refine zx_getR (pc := 30) d_X11_barredBy_30 lk_CutStonesModel_170 (by decide) g2 g9 ?_
        refine zv_iload_n (pc := 33) d_X11_barredBy_33 rfl ?_
        obtain ⟨i10, hf⟩ := zw_inE hf
        refine zx_iald (pc := 34) d_X11_barredBy_34 g9 i10 ?_
        refine zv_aload_n (pc := 35) d_X11_barredBy_35 rfl ?_
        refine zv_aload_n (pc := 36) d_X11_barredBy_36 rfl ?_
        obtain ⟨g11, hf⟩ := zw_gcE hf (by decide)
        refine zx_getR (pc := 37) d_X11_barredBy_37 lk_CutStonesModel_164 (by decide) g2 g11 ?_
        refine zv_iload_n (pc := 40) d_X11_barredBy_40 rfl ?_
        obtain ⟨i12, hf⟩ := zw_inE hf
        refine zx_iald (pc := 41) d_X11_barredBy_41 g11 i12 ?_
        refine zv_iload_n (pc := 42) d_X11_barredBy_42 rfl ?_
        refine zv_aload_n (pc := 43) d_X11_barredBy_43 rfl ?_
        obtain ⟨g13, hf⟩ := zw_gcE hf (by decide)
        refine zx_getR (pc := 44) d_X11_barredBy_44 lk_CutStonesModel_167 (by decide) g2 g13 ?_
        refine zv_iload_n (pc := 47) d_X11_barredBy_47 rfl ?_
        obtain ⟨i14, hf⟩ := zw_inE hf
        refine zx_iald (pc := 48) d_X11_barredBy_48 g13 i14 ?_
        obtain ⟨q15, hq15, hf⟩ := zw_bdE hf
        refine zx_callV (pc := 49) (As := [.int (s.2 (R v0 77) (Int32.toNatClampNeg s.1)), .int v1, .int (s.2 (R v0 78) (Int32.toNatClampNeg s.1))]) (o := v0) (st := [.int (s.2 (R v0 79) (Int32.toNatClampNeg s.1))]) (d2 := 5) (M2 := M_X11_brightOf) (P2 := (fun r S => r = (some (.int q15.1)) ∧ S = (q15.2, R, J))) d_X11_barredBy_49 (zw_mG (List.mem_of_getElem? (i := 1693) (by decide +kernel)) rfl) ce_X11_brightOf (zw_RvK g2 rfl rfl) (Nat.le_of_ble_eq_true rfl) rfl (Nat.le_of_ble_eq_true rfl) (by decide) (c_X11_brightOf X v0 (s.2 (R v0 77) (Int32.toNatClampNeg s.1)) v1 (s.2 (R v0 78) (Int32.toNatClampNeg s.1)) s.2 R J _ hq15 ⟨rfl, rfl⟩) ?_
        rintro _ _ ⟨rfl, rfl⟩
        show zy_V X M_X11_barredBy 6 P (49 + 3) [.ref v0, .int v1, .int v2, .int s.1, .null] [.int q15.1, .int (s.2 (R v0 79) (Int32.toNatClampNeg s.1))] (q15.2, R, J)
        refine zv_isub (pc := 52) d_X11_barredBy_52 ?_
        obtain ⟨x16, ex16, hf⟩ := zw_letE hf
        refine zx_istore (pc := 53) (x2 := x16) (L2 := [.ref v0, .int v1, .int v2, .int s.1, .int x16]) d_X11_barredBy_53 (by decide) ex16 rfl ?_
        refine zv_iload (pc := 55) d_X11_barredBy_55 rfl ?_
        rcases zw_ifE hf with ⟨c17, hf⟩ | ⟨c17, hf⟩
        · refine zv_if_ge (pc := 57) (tg := 65) d_X11_barredBy_57 (by decide) (fun _ => ?_) (fun q => absurd c17 q)
          exact zx_weak (zw_leS (zw_leS (zw_leS (zw_leS (zw_leS zw_leZ))))) (j_X11_barredBy_65_2_ok X P v0 v1 v2 s.1 x16 q15.2 R J _ hf hk)
        · refine zv_if_ge (pc := 57) (tg := 65) d_X11_barredBy_57 (by decide) (fun q => absurd q c17) (fun _ => ?_)
          refine zv_iload (pc := 60) d_X11_barredBy_60 rfl ?_
          refine zv_ineg (pc := 62) d_X11_barredBy_62 ?_
          obtain ⟨x22, ex22, hf⟩ := zw_letE hf
          refine zx_istore (pc := 63) (x2 := x22) (L2 := [.ref v0, .int v1, .int v2, .int s.1, .int x22]) d_X11_barredBy_63 (by decide) ex22 rfl ?_
          exact zx_weak (zw_leS (zw_leS (zw_leS (zw_leS (zw_leS zw_leZ))))) (j_X11_barredBy_65_2_ok X P v0 v1 v2 s.1 x22 q15.2 R J _ hf hk)
      · refine zv_if_eq (pc := 23) (tg := 29) d_X11_barredBy_23 (by decide) (fun q => absurd q c8) (fun _ => ?_)
        refine zv_goto (pc := 26) (tg := 83) d_X11_barredBy_26 (by decide) ?_
        exact zx_weak (zw_leS (zw_leS (zw_leS (zw_leS (zw_leN zw_leZ))))) (j_X11_barredBy_83_2_ok X P v0 v1 v2 s.1 s.2 R J _ hf hk)
theorem s_X11_barredBy_2_lp (X : zw_X) (P : Option Value → aS → Prop) (v0 : Nat) (v1 : Int32) (v2 : Int32) (R : zR) (J : zJ) (n : Nat) (s : Int32 × zI) (r : (zI) ⊕ (Int32 × zI)) (h : zw_it (s_X11_barredBy_2 v0 v1 v2 R) n s = some r) (hq : (zw_se (fun r0 => zy_V X M_X11_barredBy 6 P 89 [.null, .null, .null, .null, .null] [] (r0, R, J)) (fun t0 => zy_V X M_X11_barredBy 6 P 81 [.null, .null, .null, .int t0.1, .null] [] (t0.2, R, J)) r)) : zy_V X M_X11_barredBy 6 P 2 [.ref v0, .int v1, .int v2, .int s.1, .null] [] (s.2, R, J) :=
  zw_itE (A := (fun t : Int32 × zI => zy_V X M_X11_barredBy 6 P 2 [.ref v0, .int v1, .int v2, .int t.1, .null] [] (t.2, R, J))) (Q := (fun r : (zI) ⊕ (Int32 × zI) => (zw_se (fun r0 => zy_V X M_X11_barredBy 6 P 89 [.null, .null, .null, .null, .null] [] (r0, R, J)) (fun t0 => zy_V X M_X11_barredBy 6 P 81 [.null, .null, .null, .int t0.1, .null] [] (t0.2, R, J)) r))) (fun s o h1 h2 => s_X11_barredBy_2_ok X P v0 v1 v2 R J s o h1 h2) n s r h hq
def f_X11_barredBy (v0 : Nat) (v1 : Int32) (v2 : Int32) (I : zI) (R : zR) : Option (Int32 × zI) :=
  (zw_it (s_X11_barredBy_2 v0 v1 v2 R) 1000000 (0, I)).bind fun q23 => (match q23 with | .inl a24 => (some ((-1), a24)) | .inr a25 => (some (a25.1, a25.2)))
theorem c_X11_barredBy (X : zw_X) (v0 : Nat) (v1 : Int32) (v2 : Int32) (I : zI) (R : zR) (J : zJ) {P : Option Value → aS → Prop} (o : Int32 × zI) (hf : f_X11_barredBy v0 v1 v2 I R = some o) (hk : P (some (.int o.1)) (o.2, R, J)) : zw_C X M_X11_barredBy 6 0 0 199 [.ref v0, .int v1, .int v2] (I, R, J) P := by
  show zy_V X M_X11_barredBy 6 P 0 [.ref v0, .int v1, .int v2, .null, .null] [] (I, R, J)
  unfold f_X11_barredBy at hf
  refine zv_iconst (pc := 0) d_X11_barredBy_0 zc_i_0 ?_
  refine zx_istore_n (pc := 1) (x2 := 0) (L2 := [.ref v0, .int v1, .int v2, .int 0, .null]) d_X11_barredBy_1 (by decide) rfl rfl ?_
  obtain ⟨q23, hq23, hf⟩ := zw_bdE hf
  refine zx_weak (L' := [.ref v0, .int v1, .int v2, .int 0, .null]) (zw_leS (zw_leS (zw_leS (zw_leS (zw_leN zw_leZ))))) (s_X11_barredBy_2_lp X P v0 v1 v2 R J _ _ _ hq23 ?_)
  rcases q23 with a24 | a25
  ·
    show zy_V X M_X11_barredBy 6 P 89 [.null, .null, .null, .null, .null] [] (a24, R, J)
    refine zv_iconst (pc := 89) d_X11_barredBy_89 zc_i_m1 ?_
    cases hf
    exact zx_iret (pc := 90) d_X11_barredBy_90 rfl hk
  ·
    show zy_V X M_X11_barredBy 6 P 81 [.null, .null, .null, .int a25.1, .null] [] (a25.2, R, J)
    refine zv_iload_n (pc := 81) d_X11_barredBy_81 rfl ?_
    cases hf
    exact zx_iret (pc := 82) d_X11_barredBy_82 rfl hk
