abbrev M_X11_named : zw_M := (⟨"CutStonesModel", "named", "()V"⟩, prog_13_method_23_code, 3, (Option.none : Option Jvm.ClassFile.FieldType))
theorem d_X11_named_0 : decode M_X11_named.2.1 0 = .ok (.aload_n 0, 1) := by decide +kernel
theorem d_X11_named_1 : decode M_X11_named.2.1 1 = .ok (.getfield 221, 3) := by decide +kernel
theorem d_X11_named_4 : decode M_X11_named.2.1 4 = .ok (.istore_n 1, 1) := by decide +kernel
theorem d_X11_named_5 : decode M_X11_named.2.1 5 = .ok (.aload_n 0, 1) := by decide +kernel
theorem d_X11_named_6 : decode M_X11_named.2.1 6 = .ok (.iconst 1, 1) := by decide +kernel
theorem d_X11_named_7 : decode M_X11_named.2.1 7 = .ok (.invokevirtual 286, 3) := by decide +kernel
theorem d_X11_named_10 : decode M_X11_named.2.1 10 = .ok (.aload_n 0, 1) := by decide +kernel
theorem d_X11_named_11 : decode M_X11_named.2.1 11 = .ok (.getfield 218, 3) := by decide +kernel
theorem d_X11_named_14 : decode M_X11_named.2.1 14 = .ok (.ifCond .le 4, 3) := by decide +kernel
theorem d_X11_named_17 : decode M_X11_named.2.1 17 = .ok (.return_, 1) := by decide +kernel
theorem d_X11_named_18 : decode M_X11_named.2.1 18 = .ok (.iconst 0, 1) := by decide +kernel
theorem d_X11_named_19 : decode M_X11_named.2.1 19 = .ok (.istore_n 2, 1) := by decide +kernel
theorem d_X11_named_20 : decode M_X11_named.2.1 20 = .ok (.iload_n 2, 1) := by decide +kernel
theorem d_X11_named_21 : decode M_X11_named.2.1 21 = .ok (.aload_n 0, 1) := by decide +kernel
theorem d_X11_named_22 : decode M_X11_named.2.1 22 = .ok (.getfield 40, 3) := by decide +kernel
theorem d_X11_named_25 : decode M_X11_named.2.1 25 = .ok (.aload_n 0, 1) := by decide +kernel
theorem d_X11_named_26 : decode M_X11_named.2.1 26 = .ok (.getfield 251, 3) := by decide +kernel
theorem d_X11_named_29 : decode M_X11_named.2.1 29 = .ok (.iaload, 1) := by decide +kernel
theorem d_X11_named_30 : decode M_X11_named.2.1 30 = .ok (.if_icmp .ge 39, 3) := by decide +kernel
theorem d_X11_named_33 : decode M_X11_named.2.1 33 = .ok (.aload_n 0, 1) := by decide +kernel
theorem d_X11_named_34 : decode M_X11_named.2.1 34 = .ok (.getfield 43, 3) := by decide +kernel
theorem d_X11_named_37 : decode M_X11_named.2.1 37 = .ok (.bipush 30, 2) := by decide +kernel
theorem d_X11_named_39 : decode M_X11_named.2.1 39 = .ok (.aload_n 0, 1) := by decide +kernel
theorem d_X11_named_40 : decode M_X11_named.2.1 40 = .ok (.getfield 251, 3) := by decide +kernel
theorem d_X11_named_43 : decode M_X11_named.2.1 43 = .ok (.imul, 1) := by decide +kernel
theorem d_X11_named_44 : decode M_X11_named.2.1 44 = .ok (.iload_n 2, 1) := by decide +kernel
theorem d_X11_named_45 : decode M_X11_named.2.1 45 = .ok (.iadd, 1) := by decide +kernel
theorem d_X11_named_46 : decode M_X11_named.2.1 46 = .ok (.laload, 1) := by decide +kernel
theorem d_X11_named_47 : decode M_X11_named.2.1 47 = .ok (.aload_n 0, 1) := by decide +kernel
theorem d_X11_named_48 : decode M_X11_named.2.1 48 = .ok (.getfield 30, 3) := by decide +kernel
theorem d_X11_named_51 : decode M_X11_named.2.1 51 = .ok (.iload_n 1, 1) := by decide +kernel
theorem d_X11_named_52 : decode M_X11_named.2.1 52 = .ok (.laload, 1) := by decide +kernel
theorem d_X11_named_53 : decode M_X11_named.2.1 53 = .ok (.lcmp, 1) := by decide +kernel
theorem d_X11_named_54 : decode M_X11_named.2.1 54 = .ok (.ifCond .ne 9, 3) := by decide +kernel
theorem d_X11_named_57 : decode M_X11_named.2.1 57 = .ok (.aload_n 0, 1) := by decide +kernel
theorem d_X11_named_58 : decode M_X11_named.2.1 58 = .ok (.iconst 3, 1) := by decide +kernel
theorem d_X11_named_59 : decode M_X11_named.2.1 59 = .ok (.iload_n 1, 1) := by decide +kernel
theorem d_X11_named_60 : decode M_X11_named.2.1 60 = .ok (.invokevirtual 289, 3) := by decide +kernel
theorem d_X11_named_63 : decode M_X11_named.2.1 63 = .ok (.iinc 2 1, 3) := by decide +kernel
theorem d_X11_named_66 : decode M_X11_named.2.1 66 = .ok (.goto (-46), 3) := by decide +kernel
theorem d_X11_named_69 : decode M_X11_named.2.1 69 = .ok (.aload_n 0, 1) := by decide +kernel
theorem d_X11_named_70 : decode M_X11_named.2.1 70 = .ok (.getfield 43, 3) := by decide +kernel
theorem d_X11_named_73 : decode M_X11_named.2.1 73 = .ok (.bipush 30, 2) := by decide +kernel
theorem d_X11_named_75 : decode M_X11_named.2.1 75 = .ok (.aload_n 0, 1) := by decide +kernel
theorem d_X11_named_76 : decode M_X11_named.2.1 76 = .ok (.getfield 251, 3) := by decide +kernel
theorem d_X11_named_79 : decode M_X11_named.2.1 79 = .ok (.imul, 1) := by decide +kernel
theorem d_X11_named_80 : decode M_X11_named.2.1 80 = .ok (.aload_n 0, 1) := by decide +kernel
theorem d_X11_named_81 : decode M_X11_named.2.1 81 = .ok (.getfield 40, 3) := by decide +kernel
theorem d_X11_named_84 : decode M_X11_named.2.1 84 = .ok (.aload_n 0, 1) := by decide +kernel
theorem d_X11_named_85 : decode M_X11_named.2.1 85 = .ok (.getfield 251, 3) := by decide +kernel
theorem d_X11_named_88 : decode M_X11_named.2.1 88 = .ok (.iaload, 1) := by decide +kernel
theorem d_X11_named_89 : decode M_X11_named.2.1 89 = .ok (.iadd, 1) := by decide +kernel
theorem d_X11_named_90 : decode M_X11_named.2.1 90 = .ok (.aload_n 0, 1) := by decide +kernel
theorem d_X11_named_91 : decode M_X11_named.2.1 91 = .ok (.getfield 30, 3) := by decide +kernel
theorem d_X11_named_94 : decode M_X11_named.2.1 94 = .ok (.iload_n 1, 1) := by decide +kernel
theorem d_X11_named_95 : decode M_X11_named.2.1 95 = .ok (.laload, 1) := by decide +kernel
theorem d_X11_named_96 : decode M_X11_named.2.1 96 = .ok (.lastore, 1) := by decide +kernel
theorem d_X11_named_97 : decode M_X11_named.2.1 97 = .ok (.aload_n 0, 1) := by decide +kernel
theorem d_X11_named_98 : decode M_X11_named.2.1 98 = .ok (.getfield 40, 3) := by decide +kernel
theorem d_X11_named_101 : decode M_X11_named.2.1 101 = .ok (.aload_n 0, 1) := by decide +kernel
theorem d_X11_named_102 : decode M_X11_named.2.1 102 = .ok (.getfield 251, 3) := by decide +kernel
theorem d_X11_named_105 : decode M_X11_named.2.1 105 = .ok (.dup2, 1) := by decide +kernel
theorem d_X11_named_106 : decode M_X11_named.2.1 106 = .ok (.iaload, 1) := by decide +kernel
theorem d_X11_named_107 : decode M_X11_named.2.1 107 = .ok (.iconst 1, 1) := by decide +kernel
theorem d_X11_named_108 : decode M_X11_named.2.1 108 = .ok (.iadd, 1) := by decide +kernel
theorem d_X11_named_109 : decode M_X11_named.2.1 109 = .ok (.iastore, 1) := by decide +kernel
theorem d_X11_named_110 : decode M_X11_named.2.1 110 = .ok (.return_, 1) := by decide +kernel
theorem ce_X11_named : zw_CeV M_X11_named 0 := ⟨⟨⟨by decide +kernel, by decide +kernel, by decide +kernel⟩, (zw_mG (List.mem_of_getElem? (i := 1465) (by decide +kernel)) rfl), (zw_mG (List.mem_of_getElem? (i := 108) (by decide +kernel)) rfl), by decide, by decide +kernel⟩, (zw_mG (List.mem_of_getElem? (i := 1464) (by decide +kernel)) rfl), (zw_mG (List.mem_of_getElem? (i := 59) (by decide +kernel)) rfl)⟩
def j_X11_named_63_20 (v0 : Nat) (v1 : Int32) (v2 : Int32) (I : zI) (R : zR) (J : zJ) : Option ((Int32 × zI) ⊕ (zI)) :=
  zw_let (v2 + 1 : Int32) fun x14 => (some (.inl (x14, I)))
theorem j_X11_named_63_20_ok (X : zw_X) (P : Option Value → aS → Prop) (v0 : Nat) (v1 : Int32) (v2 : Int32) (I : zI) (R : zR) (J : zJ) (o : (Int32 × zI) ⊕ (zI)) (hf : j_X11_named_63_20 v0 v1 v2 I R J = some o) (hk : (zw_se (fun t => zy_V X M_X11_named 3 P 20 [.ref v0, .int v1, .int t.1] [] (t.2, R, J)) (fun r => zy_V X M_X11_named 3 P 69 [.ref v0, .int v1, .null] [] (r, R, J)) o)) : zy_V X M_X11_named 3 P 63 [.ref v0, .int v1, .int v2] [] (I, R, J) := by
  unfold j_X11_named_63_20 at hf
  obtain ⟨x14, ex14, hf⟩ := zw_letE hf
  refine zx_iinc (pc := 63) (x2 := x14) (L2 := [.ref v0, .int v1, .int x14]) d_X11_named_63 (by decide) rfl zc_i_1 ex14 rfl ?_
  refine zv_goto (pc := 66) (tg := 20) d_X11_named_66 (by decide) ?_
  cases hf
  exact zx_weak (zw_leS (zw_leS (zw_leS zw_leZ))) hk
def s_X11_named_20 (v0 : Nat) (v1 : Int32) (R : zR) (J : zJ) (s : Int32 × zI) : Option ((Int32 × zI) ⊕ (zI)) :=
  zw_g (zw_gc v0 11) (zw_g (zw_gc (R v0 20) 13) (zw_g (zw_in (s.2 v0 19) (zw_SH (R v0 20)).2) (if (s.2 (R v0 20) (Int32.toNatClampNeg (s.2 v0 19))) ≤ s.1 then some (.inr s.2) else zw_g (zw_gc (R v0 21) 14) (zw_g (zw_in ((30 * (s.2 v0 19)) + s.1) (zw_SH (R v0 21)).2) (zw_g (zw_gc (R v0 8) 14) (zw_g (zw_in v1 (zw_SH (R v0 8)).2) (if ¬ (lg_cmp (J (R v0 21) (Int32.toNatClampNeg ((30 * (s.2 v0 19)) + s.1))) (J (R v0 8) (Int32.toNatClampNeg v1))) = 0 then j_X11_named_63_20 v0 v1 s.1 s.2 R J else (f_X11_wrong v0 3 v1 s.2 R).bind fun q15 => (j_X11_named_63_20 v0 v1 s.1 q15 R J))))))))
theorem s_X11_named_20_ok (X : zw_X) (P : Option Value → aS → Prop) (v0 : Nat) (v1 : Int32) (R : zR) (J : zJ) (s : Int32 × zI) (o : (Int32 × zI) ⊕ (zI)) (hf : s_X11_named_20 v0 v1 R J s = some o) (hk : (zw_se (fun t => zy_V X M_X11_named 3 P 20 [.ref v0, .int v1, .int t.1] [] (t.2, R, J)) (fun r => zy_V X M_X11_named 3 P 69 [.ref v0, .int v1, .null] [] (r, R, J)) o)) : zy_V X M_X11_named 3 P 20 [.ref v0, .int v1, .int s.1] [] (s.2, R, J) := by
  unfold s_X11_named_20 at hf
  refine zv_iload_n (pc := 20) d_X11_named_20 rfl ?_
  refine zv_aload_n (pc := 21) d_X11_named_21 rfl ?_
  obtain ⟨g5, hf⟩ := zw_gcE hf (by decide)
  obtain ⟨g6, hf⟩ := zw_gcE hf (by decide)
  refine zx_getR (pc := 22) d_X11_named_22 lk_CutStonesModel_40 (by decide) g5 g6 ?_
  refine zv_aload_n (pc := 25) d_X11_named_25 rfl ?_
  refine zx_getI (pc := 26) d_X11_named_26 lk_CutStonesModel_251 (by decide) g5 ?_
  obtain ⟨i7, hf⟩ := zw_inE hf
  refine zx_iald (pc := 29) d_X11_named_29 g6 i7 ?_
  rcases zw_ifE hf with ⟨c8, hf⟩ | ⟨c8, hf⟩
  · refine zv_icmp_ge (pc := 30) (tg := 69) d_X11_named_30 (by decide) (fun _ => ?_) (fun q => absurd c8 q)
    cases hf
    exact zx_weak (zw_leS (zw_leS (zw_leN zw_leZ))) hk
  · refine zv_icmp_ge (pc := 30) (tg := 69) d_X11_named_30 (by decide) (fun q => absurd q c8) (fun _ => ?_)
    refine zv_aload_n (pc := 33) d_X11_named_33 rfl ?_
    obtain ⟨g9, hf⟩ := zw_gcE hf (by decide)
    refine zx_getR (pc := 34) d_X11_named_34 lk_CutStonesModel_43 (by decide) g5 g9 ?_
    refine zv_bipush (pc := 37) d_X11_named_37 zc_b_30 ?_
    refine zv_aload_n (pc := 39) d_X11_named_39 rfl ?_
    refine zx_getI (pc := 40) d_X11_named_40 lk_CutStonesModel_251 (by decide) g5 ?_
    refine zv_imul (pc := 43) d_X11_named_43 ?_
    refine zv_iload_n (pc := 44) d_X11_named_44 rfl ?_
    refine zv_iadd (pc := 45) d_X11_named_45 ?_
    obtain ⟨i10, hf⟩ := zw_inE hf
    refine zx_lald (pc := 46) d_X11_named_46 g9 i10 ?_
    refine zv_aload_n (pc := 47) d_X11_named_47 rfl ?_
    obtain ⟨g11, hf⟩ := zw_gcE hf (by decide)
    refine zx_getR (pc := 48) d_X11_named_48 lk_CutStonesModel_30 (by decide) g5 g11 ?_
    refine zv_iload_n (pc := 51) d_X11_named_51 rfl ?_
    obtain ⟨i12, hf⟩ := zw_inE hf
    refine zx_lald (pc := 52) d_X11_named_52 g11 i12 ?_
    refine zv_lcmp (pc := 53) d_X11_named_53 ?_
    rcases zw_ifE hf with ⟨c13, hf⟩ | ⟨c13, hf⟩
    · refine zv_if_ne (pc := 54) (tg := 63) d_X11_named_54 (by decide) (fun _ => ?_) (fun q => absurd q c13)
      exact zx_weak (zw_leS (zw_leS (zw_leS zw_leZ))) (j_X11_named_63_20_ok X P v0 v1 s.1 s.2 R J _ hf hk)
    · refine zv_if_ne (pc := 54) (tg := 63) d_X11_named_54 (by decide) (fun q => absurd q c13) (fun _ => ?_)
      refine zv_aload_n (pc := 57) d_X11_named_57 rfl ?_
      refine zv_iconst (pc := 58) d_X11_named_58 zc_i_3 ?_
      refine zv_iload_n (pc := 59) d_X11_named_59 rfl ?_
      obtain ⟨q15, hq15, hf⟩ := zw_bdE hf
      refine zx_callV (pc := 60) (As := [.int 3, .int v1]) (o := v0) (st := []) (d2 := 0) (M2 := M_X11_wrong) (P2 := (fun r S => r = none ∧ S = (q15, R, J))) d_X11_named_60 (zw_mG (List.mem_of_getElem? (i := 1470) (by decide +kernel)) rfl) ce_X11_wrong (zw_RvK g5 rfl rfl) (Nat.le_of_ble_eq_true rfl) rfl (Nat.le_of_ble_eq_true rfl) (by decide) (c_X11_wrong X v0 3 v1 s.2 R J _ hq15 ⟨rfl, rfl⟩) ?_
      rintro _ _ ⟨rfl, rfl⟩
      show zy_V X M_X11_named 3 P (60 + 3) [.ref v0, .int v1, .int s.1] [] (q15, R, J)
      exact zx_weak (zw_leS (zw_leS (zw_leS zw_leZ))) (j_X11_named_63_20_ok X P v0 v1 s.1 q15 R J _ hf hk)
theorem s_X11_named_20_lp (X : zw_X) (P : Option Value → aS → Prop) (v0 : Nat) (v1 : Int32) (R : zR) (J : zJ) (n : Nat) (s : Int32 × zI) (r : zI) (h : zw_it (s_X11_named_20 v0 v1 R J) n s = some r) (hq : zy_V X M_X11_named 3 P 69 [.ref v0, .int v1, .null] [] (r, R, J)) : zy_V X M_X11_named 3 P 20 [.ref v0, .int v1, .int s.1] [] (s.2, R, J) :=
  zw_itE (A := (fun t : Int32 × zI => zy_V X M_X11_named 3 P 20 [.ref v0, .int v1, .int t.1] [] (t.2, R, J))) (Q := (fun r : zI => zy_V X M_X11_named 3 P 69 [.ref v0, .int v1, .null] [] (r, R, J))) (fun s o h1 h2 => s_X11_named_20_ok X P v0 v1 R J s o h1 h2) n s r h hq
def f_X11_named (v0 : Nat) (I : zI) (R : zR) (J : zJ) : Option (zI × zJ) :=
  zw_g (zw_gc v0 11) (zw_let ((I v0 11) : Int32) fun x2 => ((f_X11_must v0 1 I R).bind fun q3 => (if (q3 v0 13) ≤ 0 then (zw_it (s_X11_named_20 v0 x2 R J) 1000000 (0, q3)).bind fun q16 => (zw_g (zw_gc (R v0 21) 14) (zw_g (zw_gc (R v0 20) 13) (zw_g (zw_in (q16 v0 19) (zw_SH (R v0 20)).2) (zw_g (zw_gc (R v0 8) 14) (zw_g (zw_in x2 (zw_SH (R v0 8)).2) (zw_g (zw_in ((30 * (q16 v0 19)) + (q16 (R v0 20) (Int32.toNatClampNeg (q16 v0 19)))) (zw_SH (R v0 21)).2) (zw_let (zw_u J (R v0 21) (Int32.toNatClampNeg ((30 * (q16 v0 19)) + (q16 (R v0 20) (Int32.toNatClampNeg (q16 v0 19))))) (J (R v0 8) (Int32.toNatClampNeg x2)) : zJ) fun J23 => (zw_g (zw_in (q16 v0 19) (zw_SH (R v0 20)).2) (zw_g (zw_in (q16 v0 19) (zw_SH (R v0 20)).2) (zw_let (zw_u q16 (R v0 20) (Int32.toNatClampNeg (q16 v0 19)) ((q16 (R v0 20) (Int32.toNatClampNeg (q16 v0 19))) + 1) : zI) fun I26 => (some (I26, J23)))))))))))) else some (q3, J))))
theorem c_X11_named (X : zw_X) (v0 : Nat) (I : zI) (R : zR) (J : zJ) {P : Option Value → aS → Prop} (o : zI × zJ) (hf : f_X11_named v0 I R J = some o) (hk : P none (o.1, R, o.2)) : zw_C X M_X11_named 3 0 0 199 [.ref v0] (I, R, J) P := by
  show zy_V X M_X11_named 3 P 0 [.ref v0, .null, .null] [] (I, R, J)
  unfold f_X11_named at hf
  refine zv_aload_n (pc := 0) d_X11_named_0 rfl ?_
  obtain ⟨g1, hf⟩ := zw_gcE hf (by decide)
  refine zx_getI (pc := 1) d_X11_named_1 lk_CutStonesModel_221 (by decide) g1 ?_
  obtain ⟨x2, ex2, hf⟩ := zw_letE hf
  refine zx_istore_n (pc := 4) (x2 := x2) (L2 := [.ref v0, .int x2, .null]) d_X11_named_4 (by decide) ex2 rfl ?_
  refine zv_aload_n (pc := 5) d_X11_named_5 rfl ?_
  refine zv_iconst (pc := 6) d_X11_named_6 zc_i_1 ?_
  obtain ⟨q3, hq3, hf⟩ := zw_bdE hf
  refine zx_callV (pc := 7) (As := [.int 1]) (o := v0) (st := []) (d2 := 2) (M2 := M_X11_must) (P2 := (fun r S => r = none ∧ S = (q3, R, J))) d_X11_named_7 (zw_mG (List.mem_of_getElem? (i := 1466) (by decide +kernel)) rfl) ce_X11_must (zw_RvK g1 rfl rfl) (Nat.le_of_ble_eq_true rfl) rfl (Nat.le_of_ble_eq_true rfl) (by decide) (c_X11_must X v0 1 I R J _ hq3 ⟨rfl, rfl⟩) ?_
  rintro _ _ ⟨rfl, rfl⟩
  show zy_V X M_X11_named 3 P (7 + 3) [.ref v0, .int x2, .null] [] (q3, R, J)
  refine zv_aload_n (pc := 10) d_X11_named_10 rfl ?_
  refine zx_getI (pc := 11) d_X11_named_11 lk_CutStonesModel_218 (by decide) g1 ?_
  rcases zw_ifE hf with ⟨c4, hf⟩ | ⟨c4, hf⟩
  · refine zv_if_le (pc := 14) (tg := 18) d_X11_named_14 (by decide) (fun _ => ?_) (fun q => absurd c4 q)
    refine zv_iconst (pc := 18) d_X11_named_18 zc_i_0 ?_
    refine zx_istore_n (pc := 19) (x2 := 0) (L2 := [.ref v0, .int x2, .int 0]) d_X11_named_19 (by decide) rfl rfl ?_
    obtain ⟨q16, hq16, hf⟩ := zw_bdE hf
    refine zx_weak (L' := [.ref v0, .int x2, .int 0]) (zw_leS (zw_leS (zw_leS zw_leZ))) (s_X11_named_20_lp X P v0 x2 R J _ _ _ hq16 ?_)
    show zy_V X M_X11_named 3 P 69 [.ref v0, .int x2, .null] [] (q16, R, J)
    refine zv_aload_n (pc := 69) d_X11_named_69 rfl ?_
    obtain ⟨g17, hf⟩ := zw_gcE hf (by decide)
    refine zx_getR (pc := 70) d_X11_named_70 lk_CutStonesModel_43 (by decide) g1 g17 ?_
    refine zv_bipush (pc := 73) d_X11_named_73 zc_b_30 ?_
    refine zv_aload_n (pc := 75) d_X11_named_75 rfl ?_
    refine zx_getI (pc := 76) d_X11_named_76 lk_CutStonesModel_251 (by decide) g1 ?_
    refine zv_imul (pc := 79) d_X11_named_79 ?_
    refine zv_aload_n (pc := 80) d_X11_named_80 rfl ?_
    obtain ⟨g18, hf⟩ := zw_gcE hf (by decide)
    refine zx_getR (pc := 81) d_X11_named_81 lk_CutStonesModel_40 (by decide) g1 g18 ?_
    refine zv_aload_n (pc := 84) d_X11_named_84 rfl ?_
    refine zx_getI (pc := 85) d_X11_named_85 lk_CutStonesModel_251 (by decide) g1 ?_
    obtain ⟨i19, hf⟩ := zw_inE hf
    refine zx_iald (pc := 88) d_X11_named_88 g18 i19 ?_
    refine zv_iadd (pc := 89) d_X11_named_89 ?_
    refine zv_aload_n (pc := 90) d_X11_named_90 rfl ?_
    obtain ⟨g20, hf⟩ := zw_gcE hf (by decide)
    refine zx_getR (pc := 91) d_X11_named_91 lk_CutStonesModel_30 (by decide) g1 g20 ?_
    refine zv_iload_n (pc := 94) d_X11_named_94 rfl ?_
    obtain ⟨i21, hf⟩ := zw_inE hf
    refine zx_lald (pc := 95) d_X11_named_95 g20 i21 ?_
    obtain ⟨i22, hf⟩ := zw_inE hf
    obtain ⟨J23, eJ23, hf⟩ := zw_letE hf
    refine zx_last (pc := 96) (J2 := J23) d_X11_named_96 g17 i22 eJ23 ?_
    refine zv_aload_n (pc := 97) d_X11_named_97 rfl ?_
    refine zx_getR (pc := 98) d_X11_named_98 lk_CutStonesModel_40 (by decide) g1 g18 ?_
    refine zv_aload_n (pc := 101) d_X11_named_101 rfl ?_
    refine zx_getI (pc := 102) d_X11_named_102 lk_CutStonesModel_251 (by decide) g1 ?_
    refine zv_dup2 (pc := 105) d_X11_named_105 rfl rfl ?_
    obtain ⟨i24, hf⟩ := zw_inE hf
    refine zx_iald (pc := 106) d_X11_named_106 g18 i24 ?_
    refine zv_iconst (pc := 107) d_X11_named_107 zc_i_1 ?_
    refine zv_iadd (pc := 108) d_X11_named_108 ?_
    obtain ⟨i25, hf⟩ := zw_inE hf
    obtain ⟨I26, eI26, hf⟩ := zw_letE hf
    refine zx_iast (pc := 109) (I2 := I26) d_X11_named_109 g18 i25 eI26 ?_
    cases hf
    exact zx_vret (pc := 110) d_X11_named_110 rfl hk
  · refine zv_if_le (pc := 14) (tg := 18) d_X11_named_14 (by decide) (fun q => absurd q c4) (fun _ => ?_)
    cases hf
    exact zx_vret (pc := 17) d_X11_named_17 rfl hk
abbrev M_X11_number : zw_M := (⟨"CutStonesModel", "number", "(I)I"⟩, prog_13_method_24_code, 4, (Option.some Jvm.ClassFile.FieldType.int))
theorem d_X11_number_0 : decode M_X11_number.2.1 0 = .ok (.aload_n 0, 1) := by decide +kernel
theorem d_X11_number_1 : decode M_X11_number.2.1 1 = .ok (.getfield 221, 3) := by decide +kernel
theorem d_X11_number_4 : decode M_X11_number.2.1 4 = .ok (.istore_n 2, 1) := by decide +kernel
theorem d_X11_number_5 : decode M_X11_number.2.1 5 = .ok (.aload_n 0, 1) := by decide +kernel
theorem d_X11_number_6 : decode M_X11_number.2.1 6 = .ok (.iconst 2, 1) := by decide +kernel
theorem d_X11_number_7 : decode M_X11_number.2.1 7 = .ok (.invokevirtual 236, 3) := by decide +kernel
theorem d_X11_number_10 : decode M_X11_number.2.1 10 = .ok (.ifCond .eq 15, 3) := by decide +kernel
theorem d_X11_number_13 : decode M_X11_number.2.1 13 = .ok (.aload_n 0, 1) := by decide +kernel
theorem d_X11_number_14 : decode M_X11_number.2.1 14 = .ok (.getfield 27, 3) := by decide +kernel
theorem d_X11_number_17 : decode M_X11_number.2.1 17 = .ok (.aload_n 0, 1) := by decide +kernel
theorem d_X11_number_18 : decode M_X11_number.2.1 18 = .ok (.getfield 221, 3) := by decide +kernel
theorem d_X11_number_21 : decode M_X11_number.2.1 21 = .ok (.iaload, 1) := by decide +kernel
theorem d_X11_number_22 : decode M_X11_number.2.1 22 = .ok (.goto 4, 3) := by decide +kernel
theorem d_X11_number_25 : decode M_X11_number.2.1 25 = .ok (.iconst 0, 1) := by decide +kernel
theorem d_X11_number_26 : decode M_X11_number.2.1 26 = .ok (.istore_n 3, 1) := by decide +kernel
theorem d_X11_number_27 : decode M_X11_number.2.1 27 = .ok (.aload_n 0, 1) := by decide +kernel
theorem d_X11_number_28 : decode M_X11_number.2.1 28 = .ok (.iconst 2, 1) := by decide +kernel
theorem d_X11_number_29 : decode M_X11_number.2.1 29 = .ok (.invokevirtual 286, 3) := by decide +kernel
theorem d_X11_number_32 : decode M_X11_number.2.1 32 = .ok (.aload_n 0, 1) := by decide +kernel
theorem d_X11_number_33 : decode M_X11_number.2.1 33 = .ok (.getfield 218, 3) := by decide +kernel
theorem d_X11_number_36 : decode M_X11_number.2.1 36 = .ok (.ifCond .ne 14, 3) := by decide +kernel
theorem d_X11_number_39 : decode M_X11_number.2.1 39 = .ok (.iload_n 3, 1) := by decide +kernel
theorem d_X11_number_40 : decode M_X11_number.2.1 40 = .ok (.iload_n 1, 1) := by decide +kernel
theorem d_X11_number_41 : decode M_X11_number.2.1 41 = .ok (.if_icmp .le 9, 3) := by decide +kernel
theorem d_X11_number_44 : decode M_X11_number.2.1 44 = .ok (.aload_n 0, 1) := by decide +kernel
theorem d_X11_number_45 : decode M_X11_number.2.1 45 = .ok (.iconst 5, 1) := by decide +kernel
theorem d_X11_number_46 : decode M_X11_number.2.1 46 = .ok (.iload_n 2, 1) := by decide +kernel
theorem d_X11_number_47 : decode M_X11_number.2.1 47 = .ok (.invokevirtual 289, 3) := by decide +kernel
theorem d_X11_number_50 : decode M_X11_number.2.1 50 = .ok (.iload_n 3, 1) := by decide +kernel
theorem d_X11_number_51 : decode M_X11_number.2.1 51 = .ok (.ireturn, 1) := by decide +kernel
theorem ce_X11_number : zw_CeV M_X11_number 1 := ⟨⟨⟨by decide +kernel, by decide +kernel, by decide +kernel⟩, (zw_mG (List.mem_of_getElem? (i := 1477) (by decide +kernel)) rfl), (zw_mG (List.mem_of_getElem? (i := 108) (by decide +kernel)) rfl), by decide, by decide +kernel⟩, (zw_mG (List.mem_of_getElem? (i := 1476) (by decide +kernel)) rfl), (zw_mG (List.mem_of_getElem? (i := 62) (by decide +kernel)) rfl)⟩
def j_X11_number_26 (v0 : Nat) (v1 : Int32) (v2 : Int32) (s0 : Int32) (I : zI) (R : zR) : Option (Int32 × zI) :=
  zw_g (zw_gc v0 11) ((f_X11_must v0 2 I R).bind fun q6 => (if ¬ (q6 v0 13) = 0 then some (s0, q6) else if s0 ≤ v1 then some (s0, q6) else (f_X11_wrong v0 5 v2 q6 R).bind fun q9 => (some (s0, q9))))
theorem j_X11_number_26_ok (X : zw_X) (P : Option Value → aS → Prop) (v0 : Nat) (v1 : Int32) (v2 : Int32) (s0 : Int32) (I : zI) (R : zR) (J : zJ) (o : Int32 × zI) (hf : j_X11_number_26 v0 v1 v2 s0 I R = some o) (hk : P (some (.int o.1)) (o.2, R, J)) : zy_V X M_X11_number 3 P 26 [.ref v0, .int v1, .int v2, .null] [.int s0] (I, R, J) := by
  unfold j_X11_number_26 at hf
  refine zx_istore_n (pc := 26) (x2 := s0) (L2 := [.ref v0, .int v1, .int v2, .int s0]) d_X11_number_26 (by decide) rfl rfl ?_
  refine zv_aload_n (pc := 27) d_X11_number_27 rfl ?_
  refine zv_iconst (pc := 28) d_X11_number_28 zc_i_2 ?_
  obtain ⟨g5, hf⟩ := zw_gcE hf (by decide)
  obtain ⟨q6, hq6, hf⟩ := zw_bdE hf
  refine zx_callV (pc := 29) (As := [.int 2]) (o := v0) (st := []) (d2 := 2) (M2 := M_X11_must) (P2 := (fun r S => r = none ∧ S = (q6, R, J))) d_X11_number_29 (zw_mG (List.mem_of_getElem? (i := 1466) (by decide +kernel)) rfl) ce_X11_must (zw_RvK g5 rfl rfl) (Nat.le_of_ble_eq_true rfl) rfl (Nat.le_of_ble_eq_true rfl) (by decide) (c_X11_must X v0 2 I R J _ hq6 ⟨rfl, rfl⟩) ?_
  rintro _ _ ⟨rfl, rfl⟩
  show zy_V X M_X11_number 3 P (29 + 3) [.ref v0, .int v1, .int v2, .int s0] [] (q6, R, J)
  refine zv_aload_n (pc := 32) d_X11_number_32 rfl ?_
  refine zx_getI (pc := 33) d_X11_number_33 lk_CutStonesModel_218 (by decide) g5 ?_
  rcases zw_ifE hf with ⟨c7, hf⟩ | ⟨c7, hf⟩
  · refine zv_if_ne (pc := 36) (tg := 50) d_X11_number_36 (by decide) (fun _ => ?_) (fun q => absurd q c7)
    refine zv_iload_n (pc := 50) d_X11_number_50 rfl ?_
    cases hf
    exact zx_iret (pc := 51) d_X11_number_51 rfl hk
  · refine zv_if_ne (pc := 36) (tg := 50) d_X11_number_36 (by decide) (fun q => absurd q c7) (fun _ => ?_)
    refine zv_iload_n (pc := 39) d_X11_number_39 rfl ?_
    refine zv_iload_n (pc := 40) d_X11_number_40 rfl ?_
    rcases zw_ifE hf with ⟨c8, hf⟩ | ⟨c8, hf⟩
    · refine zv_icmp_le (pc := 41) (tg := 50) d_X11_number_41 (by decide) (fun _ => ?_) (fun q => absurd c8 q)
      refine zv_iload_n (pc := 50) d_X11_number_50 rfl ?_
      cases hf
      exact zx_iret (pc := 51) d_X11_number_51 rfl hk
    · refine zv_icmp_le (pc := 41) (tg := 50) d_X11_number_41 (by decide) (fun q => absurd q c8) (fun _ => ?_)
      refine zv_aload_n (pc := 44) d_X11_number_44 rfl ?_
      refine zv_iconst (pc := 45) d_X11_number_45 zc_i_5 ?_
      refine zv_iload_n (pc := 46) d_X11_number_46 rfl ?_
      obtain ⟨q9, hq9, hf⟩ := zw_bdE hf
      refine zx_callV (pc := 47) (As := [.int 5, .int v2]) (o := v0) (st := []) (d2 := 0) (M2 := M_X11_wrong) (P2 := (fun r S => r = none ∧ S = (q9, R, J))) d_X11_number_47 (zw_mG (List.mem_of_getElem? (i := 1470) (by decide +kernel)) rfl) ce_X11_wrong (zw_RvK g5 rfl rfl) (Nat.le_of_ble_eq_true rfl) rfl (Nat.le_of_ble_eq_true rfl) (by decide) (c_X11_wrong X v0 5 v2 q6 R J _ hq9 ⟨rfl, rfl⟩) ?_
      rintro _ _ ⟨rfl, rfl⟩
      show zy_V X M_X11_number 3 P (47 + 3) [.ref v0, .int v1, .int v2, .int s0] [] (q9, R, J)
      refine zv_iload_n (pc := 50) d_X11_number_50 rfl ?_
      cases hf
      exact zx_iret (pc := 51) d_X11_number_51 rfl hk
def f_X11_number (v0 : Nat) (v1 : Int32) (I : zI) (R : zR) : Option (Int32 × zI) :=
  zw_g (zw_gc v0 11) (zw_let ((I v0 11) : Int32) fun x2 => ((f_X11_is v0 2 I R).bind fun q3 => (if q3 = 0 then j_X11_number_26 v0 v1 x2 0 I R else zw_g (zw_gc (R v0 7) 13) (zw_g (zw_in (I v0 11) (zw_SH (R v0 7)).2) (j_X11_number_26 v0 v1 x2 (I (R v0 7) (Int32.toNatClampNeg (I v0 11))) I R)))))
theorem c_X11_number (X : zw_X) (v0 : Nat) (v1 : Int32) (I : zI) (R : zR) (J : zJ) {P : Option Value → aS → Prop} (o : Int32 × zI) (hf : f_X11_number v0 v1 I R = some o) (hk : P (some (.int o.1)) (o.2, R, J)) : zw_C X M_X11_number 3 0 0 199 [.ref v0, .int v1] (I, R, J) P := by
  show zy_V X M_X11_number 3 P 0 [.ref v0, .int v1, .null, .null] [] (I, R, J)
  unfold f_X11_number at hf
  refine zv_aload_n (pc := 0) d_X11_number_0 rfl ?_
  obtain ⟨g1, hf⟩ := zw_gcE hf (by decide)
  refine zx_getI (pc := 1) d_X11_number_1 lk_CutStonesModel_221 (by decide) g1 ?_
  obtain ⟨x2, ex2, hf⟩ := zw_letE hf
  refine zx_istore_n (pc := 4) (x2 := x2) (L2 := [.ref v0, .int v1, .int x2, .null]) d_X11_number_4 (by decide) ex2 rfl ?_
  refine zv_aload_n (pc := 5) d_X11_number_5 rfl ?_
  refine zv_iconst (pc := 6) d_X11_number_6 zc_i_2 ?_
  obtain ⟨q3, hq3, hf⟩ := zw_bdE hf
  refine zx_callV (pc := 7) (As := [.int 2]) (o := v0) (st := []) (d2 := 0) (M2 := M_X11_is) (P2 := (fun r S => r = (some (.int q3)) ∧ S = (I, R, J))) d_X11_number_7 (zw_mG (List.mem_of_getElem? (i := 1442) (by decide +kernel)) rfl) ce_X11_is (zw_RvK g1 rfl rfl) (Nat.le_of_ble_eq_true rfl) rfl (Nat.le_of_ble_eq_true rfl) (by decide) (c_X11_is X v0 2 I R J _ hq3 ⟨rfl, rfl⟩) ?_
  rintro _ _ ⟨rfl, rfl⟩
  show zy_V X M_X11_number 3 P (7 + 3) [.ref v0, .int v1, .int x2, .null] [.int q3] (I, R, J)
  rcases zw_ifE hf with ⟨c4, hf⟩ | ⟨c4, hf⟩
  · refine zv_if_eq (pc := 10) (tg := 25) d_X11_number_10 (by decide) (fun _ => ?_) (fun q => absurd c4 q)
    refine zv_iconst (pc := 25) d_X11_number_25 zc_i_0 ?_
    exact zx_weak (zw_leS (zw_leS (zw_leS (zw_leN zw_leZ)))) (j_X11_number_26_ok X P v0 v1 x2 0 I R J _ hf hk)
  · refine zv_if_eq (pc := 10) (tg := 25) d_X11_number_10 (by decide) (fun q => absurd q c4) (fun _ => ?_)
    refine zv_aload_n (pc := 13) d_X11_number_13 rfl ?_
    obtain ⟨g10, hf⟩ := zw_gcE hf (by decide)
    refine zx_getR (pc := 14) d_X11_number_14 lk_CutStonesModel_27 (by decide) g1 g10 ?_
    refine zv_aload_n (pc := 17) d_X11_number_17 rfl ?_
    refine zx_getI (pc := 18) d_X11_number_18 lk_CutStonesModel_221 (by decide) g1 ?_
    obtain ⟨i11, hf⟩ := zw_inE hf
    refine zx_iald (pc := 21) d_X11_number_21 g10 i11 ?_
    refine zv_goto (pc := 22) (tg := 26) d_X11_number_22 (by decide) ?_
    exact zx_weak (zw_leS (zw_leS (zw_leS (zw_leN zw_leZ)))) (j_X11_number_26_ok X P v0 v1 x2 (I (R v0 7) (Int32.toNatClampNeg (I v0 11))) I R J _ hf hk)
abbrev M_X11_priceNow : zw_M := (⟨"CutStonesModel", "priceNow", "()I"⟩, prog_13_method_66_code, 4, (Option.some Jvm.ClassFile.FieldType.int))
theorem d_X11_priceNow_0 : decode M_X11_priceNow.2.1 0 = .ok (.iconst 0, 1) := by decide +kernel
theorem d_X11_priceNow_1 : decode M_X11_priceNow.2.1 1 = .ok (.istore_n 1, 1) := by decide +kernel
theorem d_X11_priceNow_2 : decode M_X11_priceNow.2.1 2 = .ok (.iload_n 1, 1) := by decide +kernel
theorem d_X11_priceNow_3 : decode M_X11_priceNow.2.1 3 = .ok (.aload_n 0, 1) := by decide +kernel
theorem d_X11_priceNow_4 : decode M_X11_priceNow.2.1 4 = .ok (.getfield 76, 3) := by decide +kernel
theorem d_X11_priceNow_7 : decode M_X11_priceNow.2.1 7 = .ok (.aload_n 0, 1) := by decide +kernel
theorem d_X11_priceNow_8 : decode M_X11_priceNow.2.1 8 = .ok (.getfield 248, 3) := by decide +kernel
theorem d_X11_priceNow_11 : decode M_X11_priceNow.2.1 11 = .ok (.iaload, 1) := by decide +kernel
theorem d_X11_priceNow_12 : decode M_X11_priceNow.2.1 12 = .ok (.if_icmp .ge 73, 3) := by decide +kernel
theorem d_X11_priceNow_15 : decode M_X11_priceNow.2.1 15 = .ok (.bipush 16, 2) := by decide +kernel
theorem d_X11_priceNow_17 : decode M_X11_priceNow.2.1 17 = .ok (.aload_n 0, 1) := by decide +kernel
theorem d_X11_priceNow_18 : decode M_X11_priceNow.2.1 18 = .ok (.getfield 248, 3) := by decide +kernel
theorem d_X11_priceNow_21 : decode M_X11_priceNow.2.1 21 = .ok (.imul, 1) := by decide +kernel
theorem d_X11_priceNow_22 : decode M_X11_priceNow.2.1 22 = .ok (.bipush 8, 2) := by decide +kernel
theorem d_X11_priceNow_24 : decode M_X11_priceNow.2.1 24 = .ok (.iadd, 1) := by decide +kernel
theorem d_X11_priceNow_25 : decode M_X11_priceNow.2.1 25 = .ok (.iload_n 1, 1) := by decide +kernel
theorem d_X11_priceNow_26 : decode M_X11_priceNow.2.1 26 = .ok (.iadd, 1) := by decide +kernel
theorem d_X11_priceNow_27 : decode M_X11_priceNow.2.1 27 = .ok (.istore_n 2, 1) := by decide +kernel
theorem d_X11_priceNow_28 : decode M_X11_priceNow.2.1 28 = .ok (.aload_n 0, 1) := by decide +kernel
theorem d_X11_priceNow_29 : decode M_X11_priceNow.2.1 29 = .ok (.iload_n 2, 1) := by decide +kernel
theorem d_X11_priceNow_30 : decode M_X11_priceNow.2.1 30 = .ok (.invokevirtual 422, 3) := by decide +kernel
theorem d_X11_priceNow_33 : decode M_X11_priceNow.2.1 33 = .ok (.ifCond .ne 6, 3) := by decide +kernel
theorem d_X11_priceNow_36 : decode M_X11_priceNow.2.1 36 = .ok (.goto 43, 3) := by decide +kernel
theorem d_X11_priceNow_39 : decode M_X11_priceNow.2.1 39 = .ok (.aload_n 0, 1) := by decide +kernel
theorem d_X11_priceNow_40 : decode M_X11_priceNow.2.1 40 = .ok (.aload_n 0, 1) := by decide +kernel
theorem d_X11_priceNow_41 : decode M_X11_priceNow.2.1 41 = .ok (.getfield 79, 3) := by decide +kernel
theorem d_X11_priceNow_44 : decode M_X11_priceNow.2.1 44 = .ok (.iload_n 2, 1) := by decide +kernel
theorem d_X11_priceNow_45 : decode M_X11_priceNow.2.1 45 = .ok (.iaload, 1) := by decide +kernel
theorem d_X11_priceNow_46 : decode M_X11_priceNow.2.1 46 = .ok (.aload_n 0, 1) := by decide +kernel
theorem d_X11_priceNow_47 : decode M_X11_priceNow.2.1 47 = .ok (.getfield 82, 3) := by decide +kernel
theorem d_X11_priceNow_50 : decode M_X11_priceNow.2.1 50 = .ok (.iload_n 2, 1) := by decide +kernel
theorem d_X11_priceNow_51 : decode M_X11_priceNow.2.1 51 = .ok (.iaload, 1) := by decide +kernel
theorem d_X11_priceNow_52 : decode M_X11_priceNow.2.1 52 = .ok (.invokevirtual 321, 3) := by decide +kernel
theorem d_X11_priceNow_55 : decode M_X11_priceNow.2.1 55 = .ok (.istore_n 3, 1) := by decide +kernel
theorem d_X11_priceNow_56 : decode M_X11_priceNow.2.1 56 = .ok (.iload_n 3, 1) := by decide +kernel
theorem d_X11_priceNow_57 : decode M_X11_priceNow.2.1 57 = .ok (.ifCond .ge 7, 3) := by decide +kernel
theorem d_X11_priceNow_60 : decode M_X11_priceNow.2.1 60 = .ok (.iconst 0, 1) := by decide +kernel
theorem d_X11_priceNow_61 : decode M_X11_priceNow.2.1 61 = .ok (.goto 17, 3) := by decide +kernel
theorem d_X11_priceNow_64 : decode M_X11_priceNow.2.1 64 = .ok (.iload_n 3, 1) := by decide +kernel
theorem d_X11_priceNow_65 : decode M_X11_priceNow.2.1 65 = .ok (.ldc_w 425, 3) := by decide +kernel
theorem d_X11_priceNow_68 : decode M_X11_priceNow.2.1 68 = .ok (.if_icmp .le 9, 3) := by decide +kernel
theorem d_X11_priceNow_71 : decode M_X11_priceNow.2.1 71 = .ok (.ldc_w 425, 3) := by decide +kernel
theorem d_X11_priceNow_74 : decode M_X11_priceNow.2.1 74 = .ok (.goto 4, 3) := by decide +kernel
theorem d_X11_priceNow_77 : decode M_X11_priceNow.2.1 77 = .ok (.iload_n 3, 1) := by decide +kernel
theorem d_X11_priceNow_78 : decode M_X11_priceNow.2.1 78 = .ok (.ireturn, 1) := by decide +kernel
theorem d_X11_priceNow_79 : decode M_X11_priceNow.2.1 79 = .ok (.iinc 1 1, 3) := by decide +kernel
theorem d_X11_priceNow_82 : decode M_X11_priceNow.2.1 82 = .ok (.goto (-80), 3) := by decide +kernel
theorem d_X11_priceNow_85 : decode M_X11_priceNow.2.1 85 = .ok (.iconst 0, 1) := by decide +kernel
theorem d_X11_priceNow_86 : decode M_X11_priceNow.2.1 86 = .ok (.ireturn, 1) := by decide +kernel
theorem ce_X11_priceNow : zw_CeV M_X11_priceNow 0 := ⟨⟨⟨by decide +kernel, by decide +kernel, by decide +kernel⟩, (zw_mG (List.mem_of_getElem? (i := 1643) (by decide +kernel)) rfl), (zw_mG (List.mem_of_getElem? (i := 108) (by decide +kernel)) rfl), by decide, by decide +kernel⟩, (zw_mG (List.mem_of_getElem? (i := 1642) (by decide +kernel)) rfl), (zw_mG (List.mem_of_getElem? (i := 85) (by decide +kernel)) rfl)⟩
def s_X11_priceNow_2 (v0 : Nat) (R : zR) (s : Int32 × zI) : Option ((Int32 × zI) ⊕ ((zI) ⊕ (Int32 × zI))) :=
  zw_g (zw_gc v0 11) (zw_g (zw_gc (R v0 32) 13) (zw_g (zw_in (s.2 v0 18) (zw_SH (R v0 32)).2) (if (s.2 (R v0 32) (Int32.toNatClampNeg (s.2 v0 18))) ≤ s.1 then some (.inr (.inl s.2)) else zw_let ((((16 * (s.2 v0 18)) + 8) + s.1) : Int32) fun x5 => ((f_X11_holds v0 x5 s.2 R).bind fun q6 => (if ¬ q6.1 = 0 then some (.inr (.inr (x5, q6.2))) else zw_let (s.1 + 1 : Int32) fun x8 => (some (.inl (x8, q6.2))))))))
theorem s_X11_priceNow_2_ok (X : zw_X) (P : Option Value → aS → Prop) (v0 : Nat) (R : zR) (J : zJ) (s : Int32 × zI) (o : (Int32 × zI) ⊕ ((zI) ⊕ (Int32 × zI))) (hf : s_X11_priceNow_2 v0 R s = some o) (hk : (zw_se (fun t => zy_V X M_X11_priceNow 3 P 2 [.ref v0, .int t.1, .null, .null] [] (t.2, R, J)) (fun r => (zw_se (fun r0 => zy_V X M_X11_priceNow 3 P 85 [.null, .null, .null, .null] [] (r0, R, J)) (fun t0 => zy_V X M_X11_priceNow 3 P 39 [.ref v0, .null, .int t0.1, .null] [] (t0.2, R, J)) r)) o)) : zy_V X M_X11_priceNow 3 P 2 [.ref v0, .int s.1, .null, .null] [] (s.2, R, J) := by
  unfold s_X11_priceNow_2 at hf
  refine zv_iload_n (pc := 2) d_X11_priceNow_2 rfl ?_
  refine zv_aload_n (pc := 3) d_X11_priceNow_3 rfl ?_
  obtain ⟨g1, hf⟩ := zw_gcE hf (by decide)
  obtain ⟨g2, hf⟩ := zw_gcE hf (by decide)
  refine zx_getR (pc := 4) d_X11_priceNow_4 lk_CutStonesModel_76 (by decide) g1 g2 ?_
  refine zv_aload_n (pc := 7) d_X11_priceNow_7 rfl ?_
  refine zx_getI (pc := 8) d_X11_priceNow_8 lk_CutStonesModel_248 (by decide) g1 ?_
  obtain ⟨i3, hf⟩ := zw_inE hf
  refine zx_iald (pc := 11) d_X11_priceNow_11 g2 i3 ?_
  rcases zw_ifE hf with ⟨c4, hf⟩ | ⟨c4, hf⟩
  · refine zv_icmp_ge (pc := 12) (tg := 85) d_X11_priceNow_12 (by decide) (fun _ => ?_) (fun q => absurd c4 q)
    cases hf
    exact zx_weak (zw_leN (zw_leN (zw_leN (zw_leN zw_leZ)))) hk
  · refine zv_icmp_ge (pc := 12) (tg := 85) d_X11_priceNow_12 (by decide) (fun q => absurd q c4) (fun _ => ?_)
    refine zv_bipush (pc := 15) d_X11_priceNow_15 zc_b_16 ?_
    refine zv_aload_n (pc := 17) d_X11_priceNow_17 rfl ?_
    refine zx_getI (pc := 18) d_X11_priceNow_18 lk_CutStonesModel_248 (by decide) g1 ?_
    refine zv_imul (pc := 21) d_X11_priceNow_21 ?_
    refine zv_bipush (pc := 22) d_X11_priceNow_22 zc_b_8 ?_
    refine zv_iadd (pc := 24) d_X11_priceNow_24 ?_
    refine zv_iload_n (pc := 25) d_X11_priceNow_25 rfl ?_
    refine zv_iadd (pc := 26) d_X11_priceNow_26 ?_
    obtain ⟨x5, ex5, hf⟩ := zw_letE hf
    refine zx_istore_n (pc := 27) (x2 := x5) (L2 := [.ref v0, .int s.1, .int x5, .null]) d_X11_priceNow_27 (by decide) ex5 rfl ?_
    refine zv_aload_n (pc := 28) d_X11_priceNow_28 rfl ?_
    refine zv_iload_n (pc := 29) d_X11_priceNow_29 rfl ?_
    obtain ⟨q6, hq6, hf⟩ := zw_bdE hf
    refine zx_callV (pc := 30) (As := [.int x5]) (o := v0) (st := []) (d2 := 2) (M2 := M_X11_holds) (P2 := (fun r S => r = (some (.int q6.1)) ∧ S = (q6.2, R, J))) d_X11_priceNow_30 (zw_mG (List.mem_of_getElem? (i := 1624) (by decide +kernel)) rfl) ce_X11_holds (zw_RvK g1 rfl rfl) (Nat.le_of_ble_eq_true rfl) rfl (Nat.le_of_ble_eq_true rfl) (by decide) (c_X11_holds X v0 x5 s.2 R J _ hq6 ⟨rfl, rfl⟩) ?_
    rintro _ _ ⟨rfl, rfl⟩
    show zy_V X M_X11_priceNow 3 P (30 + 3) [.ref v0, .int s.1, .int x5, .null] [.int q6.1] (q6.2, R, J)
    rcases zw_ifE hf with ⟨c7, hf⟩ | ⟨c7, hf⟩
    · refine zv_if_ne (pc := 33) (tg := 39) d_X11_priceNow_33 (by decide) (fun _ => ?_) (fun q => absurd q c7)
      cases hf
      exact zx_weak (zw_leS (zw_leN (zw_leS (zw_leN zw_leZ)))) hk
    · refine zv_if_ne (pc := 33) (tg := 39) d_X11_priceNow_33 (by decide) (fun q => absurd q c7) (fun _ => ?_)
      refine zv_goto (pc := 36) (tg := 79) d_X11_priceNow_36 (by decide) ?_
      obtain ⟨x8, ex8, hf⟩ := zw_letE hf
      refine zx_iinc (pc := 79) (x2 := x8) (L2 := [.ref v0, .int x8, .int x5, .null]) d_X11_priceNow_79 (by decide) rfl zc_i_1 ex8 rfl ?_
      refine zv_goto (pc := 82) (tg := 2) d_X11_priceNow_82 (by decide) ?_
      cases hf
      exact zx_weak (zw_leS (zw_leS (zw_leN (zw_leN zw_leZ)))) hk
theorem s_X11_priceNow_2_lp (X : zw_X) (P : Option Value → aS → Prop) (v0 : Nat) (R : zR) (J : zJ) (n : Nat) (s : Int32 × zI) (r : (zI) ⊕ (Int32 × zI)) (h : zw_it (s_X11_priceNow_2 v0 R) n s = some r) (hq : (zw_se (fun r0 => zy_V X M_X11_priceNow 3 P 85 [.null, .null, .null, .null] [] (r0, R, J)) (fun t0 => zy_V X M_X11_priceNow 3 P 39 [.ref v0, .null, .int t0.1, .null] [] (t0.2, R, J)) r)) : zy_V X M_X11_priceNow 3 P 2 [.ref v0, .int s.1, .null, .null] [] (s.2, R, J) :=
  zw_itE (A := (fun t : Int32 × zI => zy_V X M_X11_priceNow 3 P 2 [.ref v0, .int t.1, .null, .null] [] (t.2, R, J))) (Q := (fun r : (zI) ⊕ (Int32 × zI) => (zw_se (fun r0 => zy_V X M_X11_priceNow 3 P 85 [.null, .null, .null, .null] [] (r0, R, J)) (fun t0 => zy_V X M_X11_priceNow 3 P 39 [.ref v0, .null, .int t0.1, .null] [] (t0.2, R, J)) r))) (fun s o h1 h2 => s_X11_priceNow_2_ok X P v0 R J s o h1 h2) n s r h hq
def f_X11_priceNow (v0 : Nat) (I : zI) (R : zR) : Option (Int32 × zI) :=
  (zw_it (s_X11_priceNow_2 v0 R) 1000000 (0, I)).bind fun q9 => (match q9 with | .inl a10 => (some (0, a10)) | .inr a11 => (zw_g (zw_gc v0 11) (zw_g (zw_gc (R v0 33) 13) (zw_g (zw_in a11.1 (zw_SH (R v0 33)).2) (zw_g (zw_gc (R v0 34) 13) (zw_g (zw_in a11.1 (zw_SH (R v0 34)).2) ((f_X11_termOf v0 (a11.2 (R v0 33) (Int32.toNatClampNeg a11.1)) (a11.2 (R v0 34) (Int32.toNatClampNeg a11.1)) a11.2 R).bind fun q17 => (if 0 ≤ q17.1 then if q17.1 ≤ 1000000 then some (q17.1, q17.2) else some (1000000, q17.2) else some (0, q17.2)))))))))
theorem c_X11_priceNow (X : zw_X) (v0 : Nat) (I : zI) (R : zR) (J : zJ) {P : Option Value → aS → Prop} (o : Int32 × zI) (hf : f_X11_priceNow v0 I R = some o) (hk : P (some (.int o.1)) (o.2, R, J)) : zw_C X M_X11_priceNow 3 0 0 199 [.ref v0] (I, R, J) P := by
  show zy_V X M_X11_priceNow 3 P 0 [.ref v0, .null, .null, .null] [] (I, R, J)
  unfold f_X11_priceNow at hf
  refine zv_iconst (pc := 0) d_X11_priceNow_0 zc_i_0 ?_
  refine zx_istore_n (pc := 1) (x2 := 0) (L2 := [.ref v0, .int 0, .null, .null]) d_X11_priceNow_1 (by decide) rfl rfl ?_
  obtain ⟨q9, hq9, hf⟩ := zw_bdE hf
  refine zx_weak (L' := [.ref v0, .int 0, .null, .null]) (zw_leS (zw_leS (zw_leN (zw_leN zw_leZ)))) (s_X11_priceNow_2_lp X P v0 R J _ _ _ hq9 ?_)
  rcases q9 with a10 | a11
  ·
    show zy_V X M_X11_priceNow 3 P 85 [.null, .null, .null, .null] [] (a10, R, J)
    refine zv_iconst (pc := 85) d_X11_priceNow_85 zc_i_0 ?_
    cases hf
    exact zx_iret (pc := 86) d_X11_priceNow_86 rfl hk
  ·
    show zy_V X M_X11_priceNow 3 P 39 [.ref v0, .null, .int a11.1, .null] [] (a11.2, R, J)
    refine zv_aload_n (pc := 39) d_X11_priceNow_39 rfl ?_
    refine zv_aload_n (pc := 40) d_X11_priceNow_40 rfl ?_
    obtain ⟨g12, hf⟩ := zw_gcE hf (by decide)
    obtain ⟨g13, hf⟩ := zw_gcE hf (by decide)
    refine zx_getR (pc := 41) d_X11_priceNow_41 lk_CutStonesModel_79 (by decide) g12 g13 ?_
    refine zv_iload_n (pc := 44) d_X11_priceNow_44 rfl ?_
    obtain ⟨i14, hf⟩ := zw_inE hf
    refine zx_iald (pc := 45) d_X11_priceNow_45 g13 i14 ?_
    refine zv_aload_n (pc := 46) d_X11_priceNow_46 rfl ?_
    obtain ⟨g15, hf⟩ := zw_gcE hf (by decide)
    refine zx_getR (pc := 47) d_X11_priceNow_47 lk_CutStonesModel_82 (by decide) g12 g15 ?_
    refine zv_iload_n (pc := 50) d_X11_priceNow_50 rfl ?_
    obtain ⟨i16, hf⟩ := zw_inE hf
    refine zx_iald (pc := 51) d_X11_priceNow_51 g15 i16 ?_
    obtain ⟨q17, hq17, hf⟩ := zw_bdE hf
    refine zx_callV (pc := 52) (As := [.int (a11.2 (R v0 33) (Int32.toNatClampNeg a11.1)), .int (a11.2 (R v0 34) (Int32.toNatClampNeg a11.1))]) (o := v0) (st := []) (d2 := 0) (M2 := M_X11_termOf) (P2 := (fun r S => r = (some (.int q17.1)) ∧ S = (q17.2, R, J))) d_X11_priceNow_52 (zw_mG (List.mem_of_getElem? (i := 1632) (by decide +kernel)) rfl) ce_X11_termOf (zw_RvK g12 rfl rfl) (Nat.le_of_ble_eq_true rfl) rfl (Nat.le_of_ble_eq_true rfl) (by decide) (c_X11_termOf X v0 (a11.2 (R v0 33) (Int32.toNatClampNeg a11.1)) (a11.2 (R v0 34) (Int32.toNatClampNeg a11.1)) a11.2 R J _ hq17 ⟨rfl, rfl⟩) ?_
    rintro _ _ ⟨rfl, rfl⟩
    show zy_V X M_X11_priceNow 3 P (52 + 3) [.ref v0, .null, .int a11.1, .null] [.int q17.1] (q17.2, R, J)
    refine zx_istore_n (pc := 55) (x2 := q17.1) (L2 := [.ref v0, .null, .int a11.1, .int q17.1]) d_X11_priceNow_55 (by decide) rfl rfl ?_
    refine zv_iload_n (pc := 56) d_X11_priceNow_56 rfl ?_
    rcases zw_ifE hf with ⟨c18, hf⟩ | ⟨c18, hf⟩
    · refine zv_if_ge (pc := 57) (tg := 64) d_X11_priceNow_57 (by decide) (fun _ => ?_) (fun q => absurd c18 q)
      refine zv_iload_n (pc := 64) d_X11_priceNow_64 rfl ?_
      refine zv_ldcw (pc := 65) (v := 1000000) d_X11_priceNow_65 (zw_mG (List.mem_of_getElem? (i := 1644) (by decide +kernel)) rfl) ?_
      rcases zw_ifE hf with ⟨c19, hf⟩ | ⟨c19, hf⟩
      · refine zv_icmp_le (pc := 68) (tg := 77) d_X11_priceNow_68 (by decide) (fun _ => ?_) (fun q => absurd c19 q)
        refine zv_iload_n (pc := 77) d_X11_priceNow_77 rfl ?_
        cases hf
        exact zx_iret (pc := 78) d_X11_priceNow_78 rfl hk
      · refine zv_icmp_le (pc := 68) (tg := 77) d_X11_priceNow_68 (by decide) (fun q => absurd q c19) (fun _ => ?_)
        refine zv_ldcw (pc := 71) (v := 1000000) d_X11_priceNow_71 (zw_mG (List.mem_of_getElem? (i := 1644) (by decide +kernel)) rfl) ?_
        refine zv_goto (pc := 74) (tg := 78) d_X11_priceNow_74 (by decide) ?_
        cases hf
        exact zx_iret (pc := 78) d_X11_priceNow_78 rfl hk
    · refine zv_if_ge (pc := 57) (tg := 64) d_X11_priceNow_57 (by decide) (fun q => absurd q c18) (fun _ => ?_)
      refine zv_iconst (pc := 60) d_X11_priceNow_60 zc_i_0 ?_
      refine zv_goto (pc := 61) (tg := 78) d_X11_priceNow_61 (by decide) ?_
      cases hf
      exact zx_iret (pc := 78) d_X11_priceNow_78 rfl hk
abbrev M_X11_weight : zw_M := (⟨"CutStonesModel", "weight", "(ZI)I"⟩, prog_13_method_52_code, 4, (Option.some Jvm.ClassFile.FieldType.int))
theorem d_X11_weight_0 : decode M_X11_weight.2.1 0 = .ok (.aload_n 0, 1) := by decide +kernel
theorem d_X11_weight_1 : decode M_X11_weight.2.1 1 = .ok (.iload_n 1, 1) := by decide +kernel
theorem d_X11_weight_2 : decode M_X11_weight.2.1 2 = .ok (.iload_n 2, 1) := by decide +kernel
theorem d_X11_weight_3 : decode M_X11_weight.2.1 3 = .ok (.invokevirtual 383, 3) := by decide +kernel
theorem d_X11_weight_6 : decode M_X11_weight.2.1 6 = .ok (.istore_n 3, 1) := by decide +kernel
theorem d_X11_weight_7 : decode M_X11_weight.2.1 7 = .ok (.iload_n 3, 1) := by decide +kernel
theorem d_X11_weight_8 : decode M_X11_weight.2.1 8 = .ok (.iconst (-1), 1) := by decide +kernel
theorem d_X11_weight_9 : decode M_X11_weight.2.1 9 = .ok (.if_icmp .ne 7, 3) := by decide +kernel
theorem d_X11_weight_12 : decode M_X11_weight.2.1 12 = .ok (.iconst (-1), 1) := by decide +kernel
theorem d_X11_weight_13 : decode M_X11_weight.2.1 13 = .ok (.goto 8, 3) := by decide +kernel
theorem d_X11_weight_16 : decode M_X11_weight.2.1 16 = .ok (.aload_n 0, 1) := by decide +kernel
theorem d_X11_weight_17 : decode M_X11_weight.2.1 17 = .ok (.iload_n 3, 1) := by decide +kernel
theorem d_X11_weight_18 : decode M_X11_weight.2.1 18 = .ok (.invokevirtual 387, 3) := by decide +kernel
theorem d_X11_weight_21 : decode M_X11_weight.2.1 21 = .ok (.ireturn, 1) := by decide +kernel
theorem ce_X11_weight : zw_CeV M_X11_weight 2 := ⟨⟨⟨by decide +kernel, by decide +kernel, by decide +kernel⟩, (zw_mG (List.mem_of_getElem? (i := 1513) (by decide +kernel)) rfl), (zw_mG (List.mem_of_getElem? (i := 108) (by decide +kernel)) rfl), by decide, by decide +kernel⟩, (zw_mG (List.mem_of_getElem? (i := 1511) (by decide +kernel)) rfl), (zw_mG (List.mem_of_getElem? (i := 1512) (by decide +kernel)) rfl)⟩
def f_X11_weight (v0 : Nat) (v1 : Int32) (v2 : Int32) (I : zI) (R : zR) : Option (Int32) :=
  zw_g (zw_gc v0 11) ((f_X11_row v0 v1 v2 I R).bind fun q2 => (if ¬ q2 = (-1) then (f_X11_weightOf v0 q2 I R).bind fun q4 => (some q4) else some (-1)))
theorem c_X11_weight (X : zw_X) (v0 : Nat) (v1 : Int32) (v2 : Int32) (I : zI) (R : zR) (J : zJ) {P : Option Value → aS → Prop} (o : Int32) (hf : f_X11_weight v0 v1 v2 I R = some o) (hk : P (some (.int o)) (I, R, J)) : zw_C X M_X11_weight 3 0 0 199 [.ref v0, .int v1, .int v2] (I, R, J) P := by
  show zy_V X M_X11_weight 3 P 0 [.ref v0, .int v1, .int v2, .null] [] (I, R, J)
  unfold f_X11_weight at hf
  refine zv_aload_n (pc := 0) d_X11_weight_0 rfl ?_
  refine zv_iload_n (pc := 1) d_X11_weight_1 rfl ?_
  refine zv_iload_n (pc := 2) d_X11_weight_2 rfl ?_
  obtain ⟨g1, hf⟩ := zw_gcE hf (by decide)
  obtain ⟨q2, hq2, hf⟩ := zw_bdE hf
  refine zx_callV (pc := 3) (As := [.int v1, .int v2]) (o := v0) (st := []) (d2 := 2) (M2 := M_X11_row) (P2 := (fun r S => r = (some (.int q2)) ∧ S = (I, R, J))) d_X11_weight_3 (zw_mG (List.mem_of_getElem? (i := 1514) (by decide +kernel)) rfl) ce_X11_row (zw_RvK g1 rfl rfl) (Nat.le_of_ble_eq_true rfl) rfl (Nat.le_of_ble_eq_true rfl) (by decide) (c_X11_row X v0 v1 v2 I R J _ hq2 ⟨rfl, rfl⟩) ?_
  rintro _ _ ⟨rfl, rfl⟩
  show zy_V X M_X11_weight 3 P (3 + 3) [.ref v0, .int v1, .int v2, .null] [.int q2] (I, R, J)
  refine zx_istore_n (pc := 6) (x2 := q2) (L2 := [.ref v0, .int v1, .int v2, .int q2]) d_X11_weight_6 (by decide) rfl rfl ?_
  refine zv_iload_n (pc := 7) d_X11_weight_7 rfl ?_
  refine zv_iconst (pc := 8) d_X11_weight_8 zc_i_m1 ?_
  rcases zw_ifE hf with ⟨c3, hf⟩ | ⟨c3, hf⟩
  · refine zv_icmp_ne (pc := 9) (tg := 16) d_X11_weight_9 (by decide) (fun _ => ?_) (fun q => absurd q c3)
    refine zv_aload_n (pc := 16) d_X11_weight_16 rfl ?_
    refine zv_iload_n (pc := 17) d_X11_weight_17 rfl ?_
    obtain ⟨q4, hq4, hf⟩ := zw_bdE hf
    refine zx_callV (pc := 18) (As := [.int q2]) (o := v0) (st := []) (d2 := 1) (M2 := M_X11_weightOf) (P2 := (fun r S => r = (some (.int q4)) ∧ S = (I, R, J))) d_X11_weight_18 (zw_mG (List.mem_of_getElem? (i := 1529) (by decide +kernel)) rfl) ce_X11_weightOf (zw_RvK g1 rfl rfl) (Nat.le_of_ble_eq_true rfl) rfl (Nat.le_of_ble_eq_true rfl) (by decide) (c_X11_weightOf X v0 q2 I R J _ hq4 ⟨rfl, rfl⟩) ?_
    rintro _ _ ⟨rfl, rfl⟩
    show zy_V X M_X11_weight 3 P (18 + 3) [.ref v0, .int v1, .int v2, .int q2] [.int q4] (I, R, J)
    cases hf
    exact zx_iret (pc := 21) d_X11_weight_21 rfl hk
  · refine zv_icmp_ne (pc := 9) (tg := 16) d_X11_weight_9 (by decide) (fun q => absurd q c3) (fun _ => ?_)
    refine zv_iconst (pc := 12) d_X11_weight_12 zc_i_m1 ?_
    refine zv_goto (pc := 13) (tg := 21) d_X11_weight_13 (by decide) ?_
    cases hf
    exact zx_iret (pc := 21) d_X11_weight_21 rfl hk
abbrev M_X4_holds : zw_M := (⟨"CutStones$Reckoner", "holds", "(LCutStones$House;LCutStones$Rule;LCutStones$Shine;)Z"⟩, prog_6_method_2_code, 4, (Option.some Jvm.ClassFile.FieldType.boolean))
theorem d_X4_holds_0 : decode M_X4_holds.2.1 0 = .ok (.aload_n 2, 1) := by decide +kernel
theorem d_X4_holds_1 : decode M_X4_holds.2.1 1 = .ok (.getfield 23, 3) := by decide +kernel
theorem d_X4_holds_4 : decode M_X4_holds.2.1 4 = .ok (.aload_n 2, 1) := by decide +kernel
theorem d_X4_holds_5 : decode M_X4_holds.2.1 5 = .ok (.getfield 28, 3) := by decide +kernel
theorem d_X4_holds_8 : decode M_X4_holds.2.1 8 = .ok (.if_icmp .ge 20, 3) := by decide +kernel
theorem d_X4_holds_11 : decode M_X4_holds.2.1 11 = .ok (.aload_n 0, 1) := by decide +kernel
theorem d_X4_holds_12 : decode M_X4_holds.2.1 12 = .ok (.aload_n 1, 1) := by decide +kernel
theorem d_X4_holds_13 : decode M_X4_holds.2.1 13 = .ok (.aload_n 2, 1) := by decide +kernel
theorem d_X4_holds_14 : decode M_X4_holds.2.1 14 = .ok (.getfield 23, 3) := by decide +kernel
theorem d_X4_holds_17 : decode M_X4_holds.2.1 17 = .ok (.aload_n 2, 1) := by decide +kernel
theorem d_X4_holds_18 : decode M_X4_holds.2.1 18 = .ok (.getfield 28, 3) := by decide +kernel
theorem d_X4_holds_21 : decode M_X4_holds.2.1 21 = .ok (.aload_n 3, 1) := by decide +kernel
theorem d_X4_holds_22 : decode M_X4_holds.2.1 22 = .ok (.invokevirtual 31, 3) := by decide +kernel
theorem d_X4_holds_25 : decode M_X4_holds.2.1 25 = .ok (.ifCond .eq 7, 3) := by decide +kernel
theorem d_X4_holds_28 : decode M_X4_holds.2.1 28 = .ok (.iconst 1, 1) := by decide +kernel
theorem d_X4_holds_29 : decode M_X4_holds.2.1 29 = .ok (.goto 4, 3) := by decide +kernel
theorem d_X4_holds_32 : decode M_X4_holds.2.1 32 = .ok (.iconst 0, 1) := by decide +kernel
theorem d_X4_holds_33 : decode M_X4_holds.2.1 33 = .ok (.ireturn, 1) := by decide +kernel
theorem ce_X4_holds : zw_CeV M_X4_holds 3 := ⟨⟨⟨by decide +kernel, by decide +kernel, by decide +kernel⟩, (zw_mG (List.mem_of_getElem? (i := 985) (by decide +kernel)) rfl), (zw_mG (List.mem_of_getElem? (i := 105) (by decide +kernel)) rfl), by decide, by decide +kernel⟩, (zw_mG (List.mem_of_getElem? (i := 983) (by decide +kernel)) rfl), (zw_mG (List.mem_of_getElem? (i := 984) (by decide +kernel)) rfl)⟩
def j_X4_holds_28  (I : zI) (R : zR) : Option (Int32 × zI) :=
  some (1, I)
theorem j_X4_holds_28_ok (X : zw_X) (P : Option Value → aS → Prop)  (I : zI) (R : zR) (J : zJ) (o : Int32 × zI) (hf : j_X4_holds_28 I R = some o) (hk : P (some (.int o.1)) (o.2, R, J)) : zy_V X M_X4_holds 3 P 28 [.null, .null, .null, .null] [] (I, R, J) := by
  unfold j_X4_holds_28 at hf
  refine zv_iconst (pc := 28) d_X4_holds_28 zc_i_1 ?_
  refine zv_goto (pc := 29) (tg := 33) d_X4_holds_29 (by decide) ?_
  cases hf
  exact zx_zret (pc := 33) d_X4_holds_33 rfl (Or.inr rfl) hk
def f_X4_holds (v0 : Nat) (v1 : Nat) (v2 : Nat) (v3 : Nat) (I : zI) (R : zR) : Option (Int32 × zI) :=
  zw_g (zw_gc v2 5) (if (I v2 2) ≤ (I v2 1) then j_X4_holds_28 I R else zw_g (zw_gc v0 4) ((f_X4_reckon v0 v1 (I v2 1) (I v2 2) v3 I R).bind fun q4 => (if q4.1 = 0 then some (0, q4.2) else j_X4_holds_28 q4.2 R)))
theorem c_X4_holds (X : zw_X) (v0 : Nat) (v1 : Nat) (v2 : Nat) (v3 : Nat) (I : zI) (R : zR) (J : zJ) {P : Option Value → aS → Prop} (o : Int32 × zI) (hf : f_X4_holds v0 v1 v2 v3 I R = some o) (hk : P (some (.int o.1)) (o.2, R, J)) : zw_C X M_X4_holds 3 0 0 199 [.ref v0, .ref v1, .ref v2, .ref v3] (I, R, J) P := by
  show zy_V X M_X4_holds 3 P 0 [.ref v0, .ref v1, .ref v2, .ref v3] [] (I, R, J)
  unfold f_X4_holds at hf
  refine zv_aload_n (pc := 0) d_X4_holds_0 rfl ?_
  obtain ⟨g1, hf⟩ := zw_gcE hf (by decide)
  refine zx_getI (pc := 1) d_X4_holds_1 lk_CutStones_Reckoner_23 (by decide) g1 ?_
  refine zv_aload_n (pc := 4) d_X4_holds_4 rfl ?_
  refine zx_getI (pc := 5) d_X4_holds_5 lk_CutStones_Reckoner_28 (by decide) g1 ?_
  rcases zw_ifE hf with ⟨c2, hf⟩ | ⟨c2, hf⟩
  · refine zv_icmp_ge (pc := 8) (tg := 28) d_X4_holds_8 (by decide) (fun _ => ?_) (fun q => absurd c2 q)
    exact zx_weak (zw_leN (zw_leN (zw_leN (zw_leN zw_leZ)))) (j_X4_holds_28_ok X P I R J _ hf hk)
  · refine zv_icmp_ge (pc := 8) (tg := 28) d_X4_holds_8 (by decide) (fun q => absurd q c2) (fun _ => ?_)
    refine zv_aload_n (pc := 11) d_X4_holds_11 rfl ?_
    refine zv_aload_n (pc := 12) d_X4_holds_12 rfl ?_
    refine zv_aload_n (pc := 13) d_X4_holds_13 rfl ?_
    refine zx_getI (pc := 14) d_X4_holds_14 lk_CutStones_Reckoner_23 (by decide) g1 ?_
    refine zv_aload_n (pc := 17) d_X4_holds_17 rfl ?_
    refine zx_getI (pc := 18) d_X4_holds_18 lk_CutStones_Reckoner_28 (by decide) g1 ?_
    refine zv_aload_n (pc := 21) d_X4_holds_21 rfl ?_
    obtain ⟨g3, hf⟩ := zw_gcE hf (by decide)
    obtain ⟨q4, hq4, hf⟩ := zw_bdE hf
    refine zx_callV (pc := 22) (As := [.ref v1, .int (I v2 1), .int (I v2 2), .ref v3]) (o := v0) (st := []) (d2 := 2) (M2 := M_X4_reckon) (P2 := (fun r S => r = (some (.int q4.1)) ∧ S = (q4.2, R, J))) d_X4_holds_22 (zw_mG (List.mem_of_getElem? (i := 986) (by decide +kernel)) rfl) ce_X4_reckon (zw_RvK g3 rfl rfl) (Nat.le_of_ble_eq_true rfl) rfl (Nat.le_of_ble_eq_true rfl) (by decide) (c_X4_reckon X v0 v1 (I v2 1) (I v2 2) v3 I R J _ hq4 ⟨rfl, rfl⟩) ?_
    rintro _ _ ⟨rfl, rfl⟩
    show zy_V X M_X4_holds 3 P (22 + 3) [.ref v0, .ref v1, .ref v2, .ref v3] [.int q4.1] (q4.2, R, J)
    rcases zw_ifE hf with ⟨c5, hf⟩ | ⟨c5, hf⟩
    · refine zv_if_eq (pc := 25) (tg := 32) d_X4_holds_25 (by decide) (fun _ => ?_) (fun q => absurd c5 q)
      refine zv_iconst (pc := 32) d_X4_holds_32 zc_i_0 ?_
      cases hf
      exact zx_zret (pc := 33) d_X4_holds_33 rfl (Or.inl rfl) hk
    · refine zv_if_eq (pc := 25) (tg := 32) d_X4_holds_25 (by decide) (fun q => absurd q c5) (fun _ => ?_)
      exact zx_weak (zw_leN (zw_leN (zw_leN (zw_leN zw_leZ)))) (j_X4_holds_28_ok X P q4.2 R J _ hf hk)
abbrev M_X4_worth : zw_M := (⟨"CutStones$Reckoner", "worth", "(LCutStones$House;LCutStones$Rule;LCutStones$Shine;)I"⟩, prog_6_method_3_code, 5, (Option.some Jvm.ClassFile.FieldType.int))
theorem d_X4_worth_0 : decode M_X4_worth.2.1 0 = .ok (.aload_n 0, 1) := by decide +kernel
theorem d_X4_worth_1 : decode M_X4_worth.2.1 1 = .ok (.aload_n 1, 1) := by decide +kernel
theorem d_X4_worth_2 : decode M_X4_worth.2.1 2 = .ok (.aload_n 2, 1) := by decide +kernel
theorem d_X4_worth_3 : decode M_X4_worth.2.1 3 = .ok (.getfield 35, 3) := by decide +kernel
theorem d_X4_worth_6 : decode M_X4_worth.2.1 6 = .ok (.aload_n 2, 1) := by decide +kernel
theorem d_X4_worth_7 : decode M_X4_worth.2.1 7 = .ok (.getfield 23, 3) := by decide +kernel
theorem d_X4_worth_10 : decode M_X4_worth.2.1 10 = .ok (.aload_n 3, 1) := by decide +kernel
theorem d_X4_worth_11 : decode M_X4_worth.2.1 11 = .ok (.invokevirtual 31, 3) := by decide +kernel
theorem d_X4_worth_14 : decode M_X4_worth.2.1 14 = .ok (.istore 4, 2) := by decide +kernel
theorem d_X4_worth_16 : decode M_X4_worth.2.1 16 = .ok (.aload_n 0, 1) := by decide +kernel
theorem d_X4_worth_17 : decode M_X4_worth.2.1 17 = .ok (.getfield 19, 3) := by decide +kernel
theorem d_X4_worth_20 : decode M_X4_worth.2.1 20 = .ok (.ifCond .eq 7, 3) := by decide +kernel
theorem d_X4_worth_23 : decode M_X4_worth.2.1 23 = .ok (.iconst 0, 1) := by decide +kernel
theorem d_X4_worth_24 : decode M_X4_worth.2.1 24 = .ok (.goto 5, 3) := by decide +kernel
theorem d_X4_worth_27 : decode M_X4_worth.2.1 27 = .ok (.iload 4, 2) := by decide +kernel
theorem d_X4_worth_29 : decode M_X4_worth.2.1 29 = .ok (.ireturn, 1) := by decide +kernel
theorem ce_X4_worth : zw_CeV M_X4_worth 3 := ⟨⟨⟨by decide +kernel, by decide +kernel, by decide +kernel⟩, (zw_mG (List.mem_of_getElem? (i := 1026) (by decide +kernel)) rfl), (zw_mG (List.mem_of_getElem? (i := 105) (by decide +kernel)) rfl), by decide, by decide +kernel⟩, (zw_mG (List.mem_of_getElem? (i := 1024) (by decide +kernel)) rfl), (zw_mG (List.mem_of_getElem? (i := 1025) (by decide +kernel)) rfl)⟩
def f_X4_worth (v0 : Nat) (v1 : Nat) (v2 : Nat) (v3 : Nat) (I : zI) (R : zR) : Option (Int32 × zI) :=
  zw_g (zw_gc v2 5) (zw_g (zw_gc v0 4) ((f_X4_reckon v0 v1 (I v2 0) (I v2 1) v3 I R).bind fun q3 => (if (q3.2 v0 2) = 0 then some (q3.1, q3.2) else some (0, q3.2))))
theorem c_X4_worth (X : zw_X) (v0 : Nat) (v1 : Nat) (v2 : Nat) (v3 : Nat) (I : zI) (R : zR) (J : zJ) {P : Option Value → aS → Prop} (o : Int32 × zI) (hf : f_X4_worth v0 v1 v2 v3 I R = some o) (hk : P (some (.int o.1)) (o.2, R, J)) : zw_C X M_X4_worth 3 0 0 199 [.ref v0, .ref v1, .ref v2, .ref v3] (I, R, J) P := by
  show zy_V X M_X4_worth 3 P 0 [.ref v0, .ref v1, .ref v2, .ref v3, .null] [] (I, R, J)
  unfold f_X4_worth at hf
  refine zv_aload_n (pc := 0) d_X4_worth_0 rfl ?_
  refine zv_aload_n (pc := 1) d_X4_worth_1 rfl ?_
  refine zv_aload_n (pc := 2) d_X4_worth_2 rfl ?_
  obtain ⟨g1, hf⟩ := zw_gcE hf (by decide)
  refine zx_getI (pc := 3) d_X4_worth_3 lk_CutStones_Reckoner_35 (by decide) g1 ?_
  refine zv_aload_n (pc := 6) d_X4_worth_6 rfl ?_
  refine zx_getI (pc := 7) d_X4_worth_7 lk_CutStones_Reckoner_23 (by decide) g1 ?_
  refine zv_aload_n (pc := 10) d_X4_worth_10 rfl ?_
  obtain ⟨g2, hf⟩ := zw_gcE hf (by decide)
  obtain ⟨q3, hq3, hf⟩ := zw_bdE hf
  refine zx_callV (pc := 11) (As := [.ref v1, .int (I v2 0), .int (I v2 1), .ref v3]) (o := v0) (st := []) (d2 := 2) (M2 := M_X4_reckon) (P2 := (fun r S => r = (some (.int q3.1)) ∧ S = (q3.2, R, J))) d_X4_worth_11 (zw_mG (List.mem_of_getElem? (i := 986) (by decide +kernel)) rfl) ce_X4_reckon (zw_RvK g2 rfl rfl) (Nat.le_of_ble_eq_true rfl) rfl (Nat.le_of_ble_eq_true rfl) (by decide) (c_X4_reckon X v0 v1 (I v2 0) (I v2 1) v3 I R J _ hq3 ⟨rfl, rfl⟩) ?_
  rintro _ _ ⟨rfl, rfl⟩
  show zy_V X M_X4_worth 3 P (11 + 3) [.ref v0, .ref v1, .ref v2, .ref v3, .null] [.int q3.1] (q3.2, R, J)
  refine zx_istore (pc := 14) (x2 := q3.1) (L2 := [.ref v0, .ref v1, .ref v2, .ref v3, .int q3.1]) d_X4_worth_14 (by decide) rfl rfl ?_
  refine zv_aload_n (pc := 16) d_X4_worth_16 rfl ?_
  refine zx_getI (pc := 17) d_X4_worth_17 lk_CutStones_Reckoner_19 (by decide) g2 ?_
  rcases zw_ifE hf with ⟨c4, hf⟩ | ⟨c4, hf⟩
  · refine zv_if_eq (pc := 20) (tg := 27) d_X4_worth_20 (by decide) (fun _ => ?_) (fun q => absurd c4 q)
    refine zv_iload (pc := 27) d_X4_worth_27 rfl ?_
    cases hf
    exact zx_iret (pc := 29) d_X4_worth_29 rfl hk
  · refine zv_if_eq (pc := 20) (tg := 27) d_X4_worth_20 (by decide) (fun q => absurd q c4) (fun _ => ?_)
    refine zv_iconst (pc := 23) d_X4_worth_23 zc_i_0 ?_
    refine zv_goto (pc := 24) (tg := 29) d_X4_worth_24 (by decide) ?_
    cases hf
    exact zx_iret (pc := 29) d_X4_worth_29 rfl hk
abbrev M_X6_lightUp : zw_M := (⟨"CutStones$Shine", "lightUp", "(LCutStones$Drawing;LCutStones$Stuff;I)V"⟩, prog_8_method_4_code, 6, (Option.none : Option Jvm.ClassFile.FieldType))
theorem d_X6_lightUp_0 : decode M_X6_lightUp.2.1 0 = .ok (.aload_n 0, 1) := by decide +kernel
theorem d_X6_lightUp_1 : decode M_X6_lightUp.2.1 1 = .ok (.aload_n 1, 1) := by decide +kernel
theorem d_X6_lightUp_2 : decode M_X6_lightUp.2.1 2 = .ok (.getfield 47, 3) := by decide +kernel
theorem d_X6_lightUp_5 : decode M_X6_lightUp.2.1 5 = .ok (.putfield 22, 3) := by decide +kernel
theorem d_X6_lightUp_8 : decode M_X6_lightUp.2.1 8 = .ok (.aload_n 0, 1) := by decide +kernel
theorem d_X6_lightUp_9 : decode M_X6_lightUp.2.1 9 = .ok (.aload_n 1, 1) := by decide +kernel
theorem d_X6_lightUp_10 : decode M_X6_lightUp.2.1 10 = .ok (.getfield 50, 3) := by decide +kernel
theorem d_X6_lightUp_13 : decode M_X6_lightUp.2.1 13 = .ok (.putfield 26, 3) := by decide +kernel
theorem d_X6_lightUp_16 : decode M_X6_lightUp.2.1 16 = .ok (.aload_n 0, 1) := by decide +kernel
theorem d_X6_lightUp_17 : decode M_X6_lightUp.2.1 17 = .ok (.iload_n 3, 1) := by decide +kernel
theorem d_X6_lightUp_18 : decode M_X6_lightUp.2.1 18 = .ok (.putfield 29, 3) := by decide +kernel
theorem d_X6_lightUp_21 : decode M_X6_lightUp.2.1 21 = .ok (.aload_n 0, 1) := by decide +kernel
theorem d_X6_lightUp_22 : decode M_X6_lightUp.2.1 22 = .ok (.getfield 18, 3) := by decide +kernel
theorem d_X6_lightUp_25 : decode M_X6_lightUp.2.1 25 = .ok (.aload_n 2, 1) := by decide +kernel
theorem d_X6_lightUp_26 : decode M_X6_lightUp.2.1 26 = .ok (.iload_n 3, 1) := by decide +kernel
theorem d_X6_lightUp_27 : decode M_X6_lightUp.2.1 27 = .ok (.invokevirtual 51, 3) := by decide +kernel
theorem d_X6_lightUp_30 : decode M_X6_lightUp.2.1 30 = .ok (.aload_n 0, 1) := by decide +kernel
theorem d_X6_lightUp_31 : decode M_X6_lightUp.2.1 31 = .ok (.getfield 35, 3) := by decide +kernel
theorem d_X6_lightUp_34 : decode M_X6_lightUp.2.1 34 = .ok (.aload_n 0, 1) := by decide +kernel
theorem d_X6_lightUp_35 : decode M_X6_lightUp.2.1 35 = .ok (.getfield 38, 3) := by decide +kernel
theorem d_X6_lightUp_38 : decode M_X6_lightUp.2.1 38 = .ok (.iadd, 1) := by decide +kernel
theorem d_X6_lightUp_39 : decode M_X6_lightUp.2.1 39 = .ok (.aload_n 1, 1) := by decide +kernel
theorem d_X6_lightUp_40 : decode M_X6_lightUp.2.1 40 = .ok (.getfield 55, 3) := by decide +kernel
theorem d_X6_lightUp_43 : decode M_X6_lightUp.2.1 43 = .ok (.imul, 1) := by decide +kernel
theorem d_X6_lightUp_44 : decode M_X6_lightUp.2.1 44 = .ok (.istore 4, 2) := by decide +kernel
theorem d_X6_lightUp_46 : decode M_X6_lightUp.2.1 46 = .ok (.iconst 0, 1) := by decide +kernel
theorem d_X6_lightUp_47 : decode M_X6_lightUp.2.1 47 = .ok (.istore 5, 2) := by decide +kernel
theorem d_X6_lightUp_49 : decode M_X6_lightUp.2.1 49 = .ok (.iload 5, 2) := by decide +kernel
theorem d_X6_lightUp_51 : decode M_X6_lightUp.2.1 51 = .ok (.aload_n 1, 1) := by decide +kernel
theorem d_X6_lightUp_52 : decode M_X6_lightUp.2.1 52 = .ok (.getfield 47, 3) := by decide +kernel
theorem d_X6_lightUp_55 : decode M_X6_lightUp.2.1 55 = .ok (.if_icmp .ge 51, 3) := by decide +kernel
theorem d_X6_lightUp_58 : decode M_X6_lightUp.2.1 58 = .ok (.iload 5, 2) := by decide +kernel
theorem d_X6_lightUp_60 : decode M_X6_lightUp.2.1 60 = .ok (.aload_n 0, 1) := by decide +kernel
theorem d_X6_lightUp_61 : decode M_X6_lightUp.2.1 61 = .ok (.getfield 41, 3) := by decide +kernel
theorem d_X6_lightUp_64 : decode M_X6_lightUp.2.1 64 = .ok (.if_icmp .lt 12, 3) := by decide +kernel
theorem d_X6_lightUp_67 : decode M_X6_lightUp.2.1 67 = .ok (.iload 5, 2) := by decide +kernel
theorem d_X6_lightUp_69 : decode M_X6_lightUp.2.1 69 = .ok (.aload_n 0, 1) := by decide +kernel
theorem d_X6_lightUp_70 : decode M_X6_lightUp.2.1 70 = .ok (.getfield 44, 3) := by decide +kernel
theorem d_X6_lightUp_73 : decode M_X6_lightUp.2.1 73 = .ok (.if_icmp .le 27, 3) := by decide +kernel
theorem d_X6_lightUp_76 : decode M_X6_lightUp.2.1 76 = .ok (.aload_n 0, 1) := by decide +kernel
theorem d_X6_lightUp_77 : decode M_X6_lightUp.2.1 77 = .ok (.getfield 18, 3) := by decide +kernel
theorem d_X6_lightUp_80 : decode M_X6_lightUp.2.1 80 = .ok (.aload_n 1, 1) := by decide +kernel
theorem d_X6_lightUp_81 : decode M_X6_lightUp.2.1 81 = .ok (.iconst 0, 1) := by decide +kernel
theorem d_X6_lightUp_82 : decode M_X6_lightUp.2.1 82 = .ok (.iload 5, 2) := by decide +kernel
theorem d_X6_lightUp_84 : decode M_X6_lightUp.2.1 84 = .ok (.aload_n 0, 1) := by decide +kernel
theorem d_X6_lightUp_85 : decode M_X6_lightUp.2.1 85 = .ok (.getfield 32, 3) := by decide +kernel
theorem d_X6_lightUp_88 : decode M_X6_lightUp.2.1 88 = .ok (.invokevirtual 58, 3) := by decide +kernel
theorem d_X6_lightUp_91 : decode M_X6_lightUp.2.1 91 = .ok (.iload 4, 2) := by decide +kernel
theorem d_X6_lightUp_93 : decode M_X6_lightUp.2.1 93 = .ok (.aload_n 0, 1) := by decide +kernel
theorem d_X6_lightUp_94 : decode M_X6_lightUp.2.1 94 = .ok (.getfield 32, 3) := by decide +kernel
theorem d_X6_lightUp_97 : decode M_X6_lightUp.2.1 97 = .ok (.iadd, 1) := by decide +kernel
theorem d_X6_lightUp_98 : decode M_X6_lightUp.2.1 98 = .ok (.istore 4, 2) := by decide +kernel
theorem d_X6_lightUp_100 : decode M_X6_lightUp.2.1 100 = .ok (.iinc 5 1, 3) := by decide +kernel
theorem d_X6_lightUp_103 : decode M_X6_lightUp.2.1 103 = .ok (.goto (-54), 3) := by decide +kernel
theorem d_X6_lightUp_106 : decode M_X6_lightUp.2.1 106 = .ok (.iconst 0, 1) := by decide +kernel
theorem d_X6_lightUp_107 : decode M_X6_lightUp.2.1 107 = .ok (.istore 5, 2) := by decide +kernel
theorem d_X6_lightUp_109 : decode M_X6_lightUp.2.1 109 = .ok (.iload 5, 2) := by decide +kernel
theorem d_X6_lightUp_111 : decode M_X6_lightUp.2.1 111 = .ok (.aload_n 1, 1) := by decide +kernel
theorem d_X6_lightUp_112 : decode M_X6_lightUp.2.1 112 = .ok (.getfield 55, 3) := by decide +kernel
theorem d_X6_lightUp_115 : decode M_X6_lightUp.2.1 115 = .ok (.if_icmp .ge 39, 3) := by decide +kernel
theorem d_X6_lightUp_118 : decode M_X6_lightUp.2.1 118 = .ok (.aload_n 0, 1) := by decide +kernel
theorem d_X6_lightUp_119 : decode M_X6_lightUp.2.1 119 = .ok (.getfield 18, 3) := by decide +kernel
theorem d_X6_lightUp_122 : decode M_X6_lightUp.2.1 122 = .ok (.aload_n 1, 1) := by decide +kernel
theorem d_X6_lightUp_123 : decode M_X6_lightUp.2.1 123 = .ok (.iconst 3, 1) := by decide +kernel
theorem d_X6_lightUp_124 : decode M_X6_lightUp.2.1 124 = .ok (.iload 5, 2) := by decide +kernel
theorem d_X6_lightUp_126 : decode M_X6_lightUp.2.1 126 = .ok (.aload_n 0, 1) := by decide +kernel
theorem d_X6_lightUp_127 : decode M_X6_lightUp.2.1 127 = .ok (.getfield 35, 3) := by decide +kernel
theorem d_X6_lightUp_130 : decode M_X6_lightUp.2.1 130 = .ok (.invokevirtual 58, 3) := by decide +kernel
theorem d_X6_lightUp_133 : decode M_X6_lightUp.2.1 133 = .ok (.aload_n 0, 1) := by decide +kernel
theorem d_X6_lightUp_134 : decode M_X6_lightUp.2.1 134 = .ok (.getfield 18, 3) := by decide +kernel
theorem d_X6_lightUp_137 : decode M_X6_lightUp.2.1 137 = .ok (.aload_n 1, 1) := by decide +kernel
theorem d_X6_lightUp_138 : decode M_X6_lightUp.2.1 138 = .ok (.iconst 1, 1) := by decide +kernel
theorem d_X6_lightUp_139 : decode M_X6_lightUp.2.1 139 = .ok (.iload 5, 2) := by decide +kernel
theorem d_X6_lightUp_141 : decode M_X6_lightUp.2.1 141 = .ok (.aload_n 0, 1) := by decide +kernel
theorem d_X6_lightUp_142 : decode M_X6_lightUp.2.1 142 = .ok (.getfield 38, 3) := by decide +kernel
theorem d_X6_lightUp_145 : decode M_X6_lightUp.2.1 145 = .ok (.invokevirtual 58, 3) := by decide +kernel
theorem d_X6_lightUp_148 : decode M_X6_lightUp.2.1 148 = .ok (.iinc 5 1, 3) := by decide +kernel
theorem d_X6_lightUp_151 : decode M_X6_lightUp.2.1 151 = .ok (.goto (-42), 3) := by decide +kernel
theorem d_X6_lightUp_154 : decode M_X6_lightUp.2.1 154 = .ok (.aload_n 0, 1) := by decide +kernel
theorem d_X6_lightUp_155 : decode M_X6_lightUp.2.1 155 = .ok (.getfield 9, 3) := by decide +kernel
theorem d_X6_lightUp_158 : decode M_X6_lightUp.2.1 158 = .ok (.bipush 8, 2) := by decide +kernel
theorem d_X6_lightUp_160 : decode M_X6_lightUp.2.1 160 = .ok (.iload 4, 2) := by decide +kernel
theorem d_X6_lightUp_162 : decode M_X6_lightUp.2.1 162 = .ok (.iastore, 1) := by decide +kernel
theorem d_X6_lightUp_163 : decode M_X6_lightUp.2.1 163 = .ok (.aload_n 0, 1) := by decide +kernel
theorem d_X6_lightUp_164 : decode M_X6_lightUp.2.1 164 = .ok (.aload_n 1, 1) := by decide +kernel
theorem d_X6_lightUp_165 : decode M_X6_lightUp.2.1 165 = .ok (.invokevirtual 62, 3) := by decide +kernel
theorem d_X6_lightUp_168 : decode M_X6_lightUp.2.1 168 = .ok (.return_, 1) := by decide +kernel
theorem ce_X6_lightUp : zw_CeV M_X6_lightUp 3 := ⟨⟨⟨by decide +kernel, by decide +kernel, by decide +kernel⟩, (zw_mG (List.mem_of_getElem? (i := 944) (by decide +kernel)) rfl), (zw_mG (List.mem_of_getElem? (i := 104) (by decide +kernel)) rfl), by decide, by decide +kernel⟩, (zw_mG (List.mem_of_getElem? (i := 942) (by decide +kernel)) rfl), (zw_mG (List.mem_of_getElem? (i := 943) (by decide +kernel)) rfl)⟩
def j_X6_lightUp_100_49 (v0 : Nat) (v1 : Nat) (v4 : Int32) (v5 : Int32) (I : zI) (R : zR) : Option ((Int32 × Int32 × zI) ⊕ (Int32 × zI)) :=
  zw_let (v5 + 1 : Int32) fun x17 => (some (.inl (v4, x17, I)))
theorem j_X6_lightUp_100_49_ok (X : zw_X) (P : Option Value → aS → Prop) (v0 : Nat) (v1 : Nat) (v4 : Int32) (v5 : Int32) (I : zI) (R : zR) (J : zJ) (o : (Int32 × Int32 × zI) ⊕ (Int32 × zI)) (hf : j_X6_lightUp_100_49 v0 v1 v4 v5 I R = some o) (hk : (zw_se (fun t => zy_V X M_X6_lightUp 3 P 49 [.ref v0, .ref v1, .null, .null, .int t.1, .int t.2.1] [] (t.2.2, R, J)) (fun r => zy_V X M_X6_lightUp 3 P 106 [.ref v0, .ref v1, .null, .null, .int r.1, .null] [] (r.2, R, J)) o)) : zy_V X M_X6_lightUp 3 P 100 [.ref v0, .ref v1, .null, .null, .int v4, .int v5] [] (I, R, J) := by
  unfold j_X6_lightUp_100_49 at hf
  obtain ⟨x17, ex17, hf⟩ := zw_letE hf
  refine zx_iinc (pc := 100) (x2 := x17) (L2 := [.ref v0, .ref v1, .null, .null, .int v4, .int x17]) d_X6_lightUp_100 (by decide) rfl zc_i_1 ex17 rfl ?_
  refine zv_goto (pc := 103) (tg := 49) d_X6_lightUp_103 (by decide) ?_
  cases hf
  exact zx_weak (zw_leS (zw_leS (zw_leN (zw_leN (zw_leS (zw_leS zw_leZ)))))) hk
def j_X6_lightUp_76_49 (v0 : Nat) (v1 : Nat) (v4 : Int32) (v5 : Int32) (I : zI) (R : zR) : Option ((Int32 × Int32 × zI) ⊕ (Int32 × zI)) :=
  zw_g (zw_gc v0 6) (zw_g (zw_gc (R v0 1) 2) ((f_X2_follow (R v0 1) v1 0 v5 (I v0 5) I R).bind fun q15 => (zw_let ((v4 + (q15 v0 5)) : Int32) fun x16 => (j_X6_lightUp_100_49 v0 v1 x16 v5 q15 R))))
theorem j_X6_lightUp_76_49_ok (X : zw_X) (P : Option Value → aS → Prop) (v0 : Nat) (v1 : Nat) (v4 : Int32) (v5 : Int32) (I : zI) (R : zR) (J : zJ) (o : (Int32 × Int32 × zI) ⊕ (Int32 × zI)) (hf : j_X6_lightUp_76_49 v0 v1 v4 v5 I R = some o) (hk : (zw_se (fun t => zy_V X M_X6_lightUp 3 P 49 [.ref v0, .ref v1, .null, .null, .int t.1, .int t.2.1] [] (t.2.2, R, J)) (fun r => zy_V X M_X6_lightUp 3 P 106 [.ref v0, .ref v1, .null, .null, .int r.1, .null] [] (r.2, R, J)) o)) : zy_V X M_X6_lightUp 3 P 76 [.ref v0, .ref v1, .null, .null, .int v4, .int v5] [] (I, R, J) := by
  unfold j_X6_lightUp_76_49 at hf
  refine zv_aload_n (pc := 76) d_X6_lightUp_76 rfl ?_
  obtain ⟨g13, hf⟩ := zw_gcE hf (by decide)
  obtain ⟨g14, hf⟩ := zw_gcE hf (by decide)
  refine zx_getR (pc := 77) d_X6_lightUp_77 lk_CutStones_Shine_18 (by decide) g13 g14 ?_
  refine zv_aload_n (pc := 80) d_X6_lightUp_80 rfl ?_
  refine zv_iconst (pc := 81) d_X6_lightUp_81 zc_i_0 ?_
  refine zv_iload (pc := 82) d_X6_lightUp_82 rfl ?_
  refine zv_aload_n (pc := 84) d_X6_lightUp_84 rfl ?_
  refine zx_getI (pc := 85) d_X6_lightUp_85 lk_CutStones_Shine_32 (by decide) g13 ?_
  obtain ⟨q15, hq15, hf⟩ := zw_bdE hf
  refine zx_callV (pc := 88) (As := [.ref v1, .int 0, .int v5, .int (I v0 5)]) (o := (R v0 1)) (st := []) (d2 := 2) (M2 := M_X2_follow) (P2 := (fun r S => r = none ∧ S = (q15, R, J))) d_X6_lightUp_88 (zw_mG (List.mem_of_getElem? (i := 946) (by decide +kernel)) rfl) ce_X2_follow (zw_RvK g14 rfl rfl) (Nat.le_of_ble_eq_true rfl) rfl (Nat.le_of_ble_eq_true rfl) (by decide) (c_X2_follow X (R v0 1) v1 0 v5 (I v0 5) I R J _ hq15 ⟨rfl, rfl⟩) ?_
  rintro _ _ ⟨rfl, rfl⟩
  show zy_V X M_X6_lightUp 3 P (88 + 3) [.ref v0, .ref v1, .null, .null, .int v4, .int v5] [] (q15, R, J)
  refine zv_iload (pc := 91) d_X6_lightUp_91 rfl ?_
  refine zv_aload_n (pc := 93) d_X6_lightUp_93 rfl ?_
  refine zx_getI (pc := 94) d_X6_lightUp_94 lk_CutStones_Shine_32 (by decide) g13 ?_
  refine zv_iadd (pc := 97) d_X6_lightUp_97 ?_
  obtain ⟨x16, ex16, hf⟩ := zw_letE hf
  refine zx_istore (pc := 98) (x2 := x16) (L2 := [.ref v0, .ref v1, .null, .null, .int x16, .int v5]) d_X6_lightUp_98 (by decide) ex16 rfl ?_
  exact zx_weak (zw_leS (zw_leS (zw_leN (zw_leN (zw_leS (zw_leS zw_leZ)))))) (j_X6_lightUp_100_49_ok X P v0 v1 x16 v5 q15 R J _ hf hk)
def s_X6_lightUp_49 (v0 : Nat) (v1 : Nat) (R : zR) (s : Int32 × Int32 × zI) : Option ((Int32 × Int32 × zI) ⊕ (Int32 × zI)) :=
  zw_g (zw_gc v1 0) (if (s.2.2 v1 1) ≤ s.2.1 then some (.inr (s.1, s.2.2)) else zw_g (zw_gc v0 6) (if s.2.1 < (s.2.2 v0 8) then j_X6_lightUp_76_49 v0 v1 s.1 s.2.1 s.2.2 R else if s.2.1 ≤ (s.2.2 v0 9) then j_X6_lightUp_100_49 v0 v1 s.1 s.2.1 s.2.2 R else j_X6_lightUp_76_49 v0 v1 s.1 s.2.1 s.2.2 R))
theorem s_X6_lightUp_49_ok (X : zw_X) (P : Option Value → aS → Prop) (v0 : Nat) (v1 : Nat) (R : zR) (J : zJ) (s : Int32 × Int32 × zI) (o : (Int32 × Int32 × zI) ⊕ (Int32 × zI)) (hf : s_X6_lightUp_49 v0 v1 R s = some o) (hk : (zw_se (fun t => zy_V X M_X6_lightUp 3 P 49 [.ref v0, .ref v1, .null, .null, .int t.1, .int t.2.1] [] (t.2.2, R, J)) (fun r => zy_V X M_X6_lightUp 3 P 106 [.ref v0, .ref v1, .null, .null, .int r.1, .null] [] (r.2, R, J)) o)) : zy_V X M_X6_lightUp 3 P 49 [.ref v0, .ref v1, .null, .null, .int s.1, .int s.2.1] [] (s.2.2, R, J) := by
  unfold s_X6_lightUp_49 at hf
  refine zv_iload (pc := 49) d_X6_lightUp_49 rfl ?_
  refine zv_aload_n (pc := 51) d_X6_lightUp_51 rfl ?_
  obtain ⟨g9, hf⟩ := zw_gcE hf (by decide)
  refine zx_getI (pc := 52) d_X6_lightUp_52 lk_CutStones_Shine_47 (by decide) g9 ?_
  rcases zw_ifE hf with ⟨c10, hf⟩ | ⟨c10, hf⟩
  · refine zv_icmp_ge (pc := 55) (tg := 106) d_X6_lightUp_55 (by decide) (fun _ => ?_) (fun q => absurd c10 q)
    cases hf
    exact zx_weak (zw_leS (zw_leS (zw_leN (zw_leN (zw_leS (zw_leN zw_leZ)))))) hk
  · refine zv_icmp_ge (pc := 55) (tg := 106) d_X6_lightUp_55 (by decide) (fun q => absurd q c10) (fun _ => ?_)
    refine zv_iload (pc := 58) d_X6_lightUp_58 rfl ?_
    refine zv_aload_n (pc := 60) d_X6_lightUp_60 rfl ?_
    obtain ⟨g11, hf⟩ := zw_gcE hf (by decide)
    refine zx_getI (pc := 61) d_X6_lightUp_61 lk_CutStones_Shine_41 (by decide) g11 ?_
    rcases zw_ifE hf with ⟨c12, hf⟩ | ⟨c12, hf⟩
    · refine zv_icmp_lt (pc := 64) (tg := 76) d_X6_lightUp_64 (by decide) (fun _ => ?_) (fun q => absurd c12 q)
      exact zx_weak (zw_leS (zw_leS (zw_leN (zw_leN (zw_leS (zw_leS zw_leZ)))))) (j_X6_lightUp_76_49_ok X P v0 v1 s.1 s.2.1 s.2.2 R J _ hf hk)
    · refine zv_icmp_lt (pc := 64) (tg := 76) d_X6_lightUp_64 (by decide) (fun q => absurd q c12) (fun _ => ?_)
      refine zv_iload (pc := 67) d_X6_lightUp_67 rfl ?_
      refine zv_aload_n (pc := 69) d_X6_lightUp_69 rfl ?_
      refine zx_getI (pc := 70) d_X6_lightUp_70 lk_CutStones_Shine_44 (by decide) g11 ?_
      rcases zw_ifE hf with ⟨c18, hf⟩ | ⟨c18, hf⟩
      · refine zv_icmp_le (pc := 73) (tg := 100) d_X6_lightUp_73 (by decide) (fun _ => ?_) (fun q => absurd c18 q)
        exact zx_weak (zw_leS (zw_leS (zw_leN (zw_leN (zw_leS (zw_leS zw_leZ)))))) (j_X6_lightUp_100_49_ok X P v0 v1 s.1 s.2.1 s.2.2 R J _ hf hk)
      · refine zv_icmp_le (pc := 73) (tg := 100) d_X6_lightUp_73 (by decide) (fun q => absurd q c18) (fun _ => ?_)
        exact zx_weak (zw_leS (zw_leS (zw_leN (zw_leN (zw_leS (zw_leS zw_leZ)))))) (j_X6_lightUp_76_49_ok X P v0 v1 s.1 s.2.1 s.2.2 R J _ hf hk)
theorem s_X6_lightUp_49_lp (X : zw_X) (P : Option Value → aS → Prop) (v0 : Nat) (v1 : Nat) (R : zR) (J : zJ) (n : Nat) (s : Int32 × Int32 × zI) (r : Int32 × zI) (h : zw_it (s_X6_lightUp_49 v0 v1 R) n s = some r) (hq : zy_V X M_X6_lightUp 3 P 106 [.ref v0, .ref v1, .null, .null, .int r.1, .null] [] (r.2, R, J)) : zy_V X M_X6_lightUp 3 P 49 [.ref v0, .ref v1, .null, .null, .int s.1, .int s.2.1] [] (s.2.2, R, J) :=
  zw_itE (A := (fun t : Int32 × Int32 × zI => zy_V X M_X6_lightUp 3 P 49 [.ref v0, .ref v1, .null, .null, .int t.1, .int t.2.1] [] (t.2.2, R, J))) (Q := (fun r : Int32 × zI => zy_V X M_X6_lightUp 3 P 106 [.ref v0, .ref v1, .null, .null, .int r.1, .null] [] (r.2, R, J))) (fun s o h1 h2 => s_X6_lightUp_49_ok X P v0 v1 R J s o h1 h2) n s r h hq
def s_X6_lightUp_109 (v0 : Nat) (v1 : Nat) (v4 : Int32) (R : zR) (s : Int32 × zI) : Option ((Int32 × zI) ⊕ (zI)) :=
  zw_g (zw_gc v1 0) (if (s.2 v1 2) ≤ s.1 then some (.inr s.2) else zw_g (zw_gc v0 6) (zw_g (zw_gc (R v0 1) 2) ((f_X2_follow (R v0 1) v1 3 s.1 (s.2 v0 6) s.2 R).bind fun q24 => ((f_X2_follow (R v0 1) v1 1 s.1 (q24 v0 7) q24 R).bind fun q25 => (zw_let (s.1 + 1 : Int32) fun x26 => (some (.inl (x26, q25))))))))
theorem s_X6_lightUp_109_ok (X : zw_X) (P : Option Value → aS → Prop) (v0 : Nat) (v1 : Nat) (v4 : Int32) (R : zR) (J : zJ) (s : Int32 × zI) (o : (Int32 × zI) ⊕ (zI)) (hf : s_X6_lightUp_109 v0 v1 v4 R s = some o) (hk : (zw_se (fun t => zy_V X M_X6_lightUp 3 P 109 [.ref v0, .ref v1, .null, .null, .int v4, .int t.1] [] (t.2, R, J)) (fun r => zy_V X M_X6_lightUp 3 P 154 [.ref v0, .ref v1, .null, .null, .int v4, .null] [] (r, R, J)) o)) : zy_V X M_X6_lightUp 3 P 109 [.ref v0, .ref v1, .null, .null, .int v4, .int s.1] [] (s.2, R, J) := by
  unfold s_X6_lightUp_109 at hf
  refine zv_iload (pc := 109) d_X6_lightUp_109 rfl ?_
  refine zv_aload_n (pc := 111) d_X6_lightUp_111 rfl ?_
  obtain ⟨g20, hf⟩ := zw_gcE hf (by decide)
  refine zx_getI (pc := 112) d_X6_lightUp_112 lk_CutStones_Shine_55 (by decide) g20 ?_
  rcases zw_ifE hf with ⟨c21, hf⟩ | ⟨c21, hf⟩
  · refine zv_icmp_ge (pc := 115) (tg := 154) d_X6_lightUp_115 (by decide) (fun _ => ?_) (fun q => absurd c21 q)
    cases hf
    exact zx_weak (zw_leS (zw_leS (zw_leN (zw_leN (zw_leS (zw_leN zw_leZ)))))) hk
  · refine zv_icmp_ge (pc := 115) (tg := 154) d_X6_lightUp_115 (by decide) (fun q => absurd q c21) (fun _ => ?_)
    refine zv_aload_n (pc := 118) d_X6_lightUp_118 rfl ?_
    obtain ⟨g22, hf⟩ := zw_gcE hf (by decide)
    obtain ⟨g23, hf⟩ := zw_gcE hf (by decide)
    refine zx_getR (pc := 119) d_X6_lightUp_119 lk_CutStones_Shine_18 (by decide) g22 g23 ?_
    refine zv_aload_n (pc := 122) d_X6_lightUp_122 rfl ?_
    refine zv_iconst (pc := 123) d_X6_lightUp_123 zc_i_3 ?_
    refine zv_iload (pc := 124) d_X6_lightUp_124 rfl ?_
    refine zv_aload_n (pc := 126) d_X6_lightUp_126 rfl ?_
    refine zx_getI (pc := 127) d_X6_lightUp_127 lk_CutStones_Shine_35 (by decide) g22 ?_
    obtain ⟨q24, hq24, hf⟩ := zw_bdE hf
    refine zx_callV (pc := 130) (As := [.ref v1, .int 3, .int s.1, .int (s.2 v0 6)]) (o := (R v0 1)) (st := []) (d2 := 2) (M2 := M_X2_follow) (P2 := (fun r S => r = none ∧ S = (q24, R, J))) d_X6_lightUp_130 (zw_mG (List.mem_of_getElem? (i := 946) (by decide +kernel)) rfl) ce_X2_follow (zw_RvK g23 rfl rfl) (Nat.le_of_ble_eq_true rfl) rfl (Nat.le_of_ble_eq_true rfl) (by decide) (c_X2_follow X (R v0 1) v1 3 s.1 (s.2 v0 6) s.2 R J _ hq24 ⟨rfl, rfl⟩) ?_
    rintro _ _ ⟨rfl, rfl⟩
    show zy_V X M_X6_lightUp 3 P (130 + 3) [.ref v0, .ref v1, .null, .null, .int v4, .int s.1] [] (q24, R, J)
    refine zv_aload_n (pc := 133) d_X6_lightUp_133 rfl ?_
    refine zx_getR (pc := 134) d_X6_lightUp_134 lk_CutStones_Shine_18 (by decide) g22 g23 ?_
    refine zv_aload_n (pc := 137) d_X6_lightUp_137 rfl ?_
    refine zv_iconst (pc := 138) d_X6_lightUp_138 zc_i_1 ?_
    refine zv_iload (pc := 139) d_X6_lightUp_139 rfl ?_
    refine zv_aload_n (pc := 141) d_X6_lightUp_141 rfl ?_
    refine zx_getI (pc := 142) d_X6_lightUp_142 lk_CutStones_Shine_38 (by decide) g22 ?_
    obtain ⟨q25, hq25, hf⟩ := zw_bdE hf
    refine zx_callV (pc := 145) (As := [.ref v1, .int 1, .int s.1, .int (q24 v0 7)]) (o := (R v0 1)) (st := []) (d2 := 2) (M2 := M_X2_follow) (P2 := (fun r S => r = none ∧ S = (q25, R, J))) d_X6_lightUp_145 (zw_mG (List.mem_of_getElem? (i := 946) (by decide +kernel)) rfl) ce_X2_follow (zw_RvK g23 rfl rfl) (Nat.le_of_ble_eq_true rfl) rfl (Nat.le_of_ble_eq_true rfl) (by decide) (c_X2_follow X (R v0 1) v1 1 s.1 (q24 v0 7) q24 R J _ hq25 ⟨rfl, rfl⟩) ?_
    rintro _ _ ⟨rfl, rfl⟩
    show zy_V X M_X6_lightUp 3 P (145 + 3) [.ref v0, .ref v1, .null, .null, .int v4, .int s.1] [] (q25, R, J)
    obtain ⟨x26, ex26, hf⟩ := zw_letE hf
    refine zx_iinc (pc := 148) (x2 := x26) (L2 := [.ref v0, .ref v1, .null, .null, .int v4, .int x26]) d_X6_lightUp_148 (by decide) rfl zc_i_1 ex26 rfl ?_
    refine zv_goto (pc := 151) (tg := 109) d_X6_lightUp_151 (by decide) ?_
    cases hf
    exact zx_weak (zw_leS (zw_leS (zw_leN (zw_leN (zw_leS (zw_leS zw_leZ)))))) hk
theorem s_X6_lightUp_109_lp (X : zw_X) (P : Option Value → aS → Prop) (v0 : Nat) (v1 : Nat) (v4 : Int32) (R : zR) (J : zJ) (n : Nat) (s : Int32 × zI) (r : zI) (h : zw_it (s_X6_lightUp_109 v0 v1 v4 R) n s = some r) (hq : zy_V X M_X6_lightUp 3 P 154 [.ref v0, .ref v1, .null, .null, .int v4, .null] [] (r, R, J)) : zy_V X M_X6_lightUp 3 P 109 [.ref v0, .ref v1, .null, .null, .int v4, .int s.1] [] (s.2, R, J) :=
  zw_itE (A := (fun t : Int32 × zI => zy_V X M_X6_lightUp 3 P 109 [.ref v0, .ref v1, .null, .null, .int v4, .int t.1] [] (t.2, R, J))) (Q := (fun r : zI => zy_V X M_X6_lightUp 3 P 154 [.ref v0, .ref v1, .null, .null, .int v4, .null] [] (r, R, J))) (fun s o h1 h2 => s_X6_lightUp_109_ok X P v0 v1 v4 R J s o h1 h2) n s r h hq
def f_X6_lightUp (v0 : Nat) (v1 : Nat) (v2 : Nat) (v3 : Int32) (I : zI) (R : zR) : Option (zI) :=
  zw_g (zw_gc v1 0) (zw_g (zw_gc v0 6) (zw_let (zw_u I v0 2 (I v1 1) : zI) fun I3 => (zw_let (zw_u I3 v0 3 (I3 v1 3) : zI) fun I4 => (zw_let (zw_u I4 v0 4 v3 : zI) fun I5 => (zw_g (zw_gc (R v0 1) 2) ((f_X2_begin (R v0 1) v2 v3 I5 R).bind fun q7 => (zw_let ((((q7 v0 6) + (q7 v0 7)) * (q7 v1 2)) : Int32) fun x8 => ((zw_it (s_X6_lightUp_49 v0 v1 R) 1000000 (x8, 0, q7)).bind fun q19 => ((zw_it (s_X6_lightUp_109 v0 v1 q19.1 R) 1000000 (0, q19.2)).bind fun q27 => (zw_g (zw_gc (R v0 0) 13) (zw_g (zw_in 8 (zw_SH (R v0 0)).2) (zw_let (zw_u q27 (R v0 0) (Int32.toNatClampNeg 8) q19.1 : zI) fun I30 => ((f_X6_sumUp v0 v1 I30 R).bind fun q31 => (some q31))))))))))))))
theorem c_X6_lightUp (X : zw_X) (v0 : Nat) (v1 : Nat) (v2 : Nat) (v3 : Int32) (I : zI) (R : zR) (J : zJ) {P : Option Value → aS → Prop} (o : zI) (hf : f_X6_lightUp v0 v1 v2 v3 I R = some o) (hk : P none (o, R, J)) : zw_C X M_X6_lightUp 3 0 0 199 [.ref v0, .ref v1, .ref v2, .int v3] (I, R, J) P := by
  show zy_V X M_X6_lightUp 3 P 0 [.ref v0, .ref v1, .ref v2, .int v3, .null, .null] [] (I, R, J)
  unfold f_X6_lightUp at hf
  refine zv_aload_n (pc := 0) d_X6_lightUp_0 rfl ?_
  refine zv_aload_n (pc := 1) d_X6_lightUp_1 rfl ?_
  obtain ⟨g1, hf⟩ := zw_gcE hf (by decide)
  refine zx_getI (pc := 2) d_X6_lightUp_2 lk_CutStones_Shine_47 (by decide) g1 ?_
  obtain ⟨g2, hf⟩ := zw_gcE hf (by decide)
  obtain ⟨I3, eI3, hf⟩ := zw_letE hf
  refine zx_putI (pc := 5) (I2 := I3) d_X6_lightUp_5 lk_CutStones_Shine_22 rfl g2 eI3 ?_
  refine zv_aload_n (pc := 8) d_X6_lightUp_8 rfl ?_
  refine zv_aload_n (pc := 9) d_X6_lightUp_9 rfl ?_
  refine zx_getI (pc := 10) d_X6_lightUp_10 lk_CutStones_Shine_50 (by decide) g1 ?_
  obtain ⟨I4, eI4, hf⟩ := zw_letE hf
  refine zx_putI (pc := 13) (I2 := I4) d_X6_lightUp_13 lk_CutStones_Shine_26 rfl g2 eI4 ?_
  refine zv_aload_n (pc := 16) d_X6_lightUp_16 rfl ?_
  refine zv_iload_n (pc := 17) d_X6_lightUp_17 rfl ?_
  obtain ⟨I5, eI5, hf⟩ := zw_letE hf
  refine zx_putI (pc := 18) (I2 := I5) d_X6_lightUp_18 lk_CutStones_Shine_29 rfl g2 eI5 ?_
  refine zv_aload_n (pc := 21) d_X6_lightUp_21 rfl ?_
  obtain ⟨g6, hf⟩ := zw_gcE hf (by decide)
  refine zx_getR (pc := 22) d_X6_lightUp_22 lk_CutStones_Shine_18 (by decide) g2 g6 ?_
  refine zv_aload_n (pc := 25) d_X6_lightUp_25 rfl ?_
  refine zv_iload_n (pc := 26) d_X6_lightUp_26 rfl ?_
  obtain ⟨q7, hq7, hf⟩ := zw_bdE hf
  refine zx_callV (pc := 27) (As := [.ref v2, .int v3]) (o := (R v0 1)) (st := []) (d2 := 1) (M2 := M_X2_begin) (P2 := (fun r S => r = none ∧ S = (q7, R, J))) d_X6_lightUp_27 (zw_mG (List.mem_of_getElem? (i := 945) (by decide +kernel)) rfl) ce_X2_begin (zw_RvK g6 rfl rfl) (Nat.le_of_ble_eq_true rfl) rfl (Nat.le_of_ble_eq_true rfl) (by decide) (c_X2_begin X (R v0 1) v2 v3 I5 R J _ hq7 ⟨rfl, rfl⟩) ?_
  rintro _ _ ⟨rfl, rfl⟩
  show zy_V X M_X6_lightUp 3 P (27 + 3) [.ref v0, .ref v1, .ref v2, .int v3, .null, .null] [] (q7, R, J)
  refine zv_aload_n (pc := 30) d_X6_lightUp_30 rfl ?_
  refine zx_getI (pc := 31) d_X6_lightUp_31 lk_CutStones_Shine_35 (by decide) g2 ?_
  refine zv_aload_n (pc := 34) d_X6_lightUp_34 rfl ?_
  refine zx_getI (pc := 35) d_X6_lightUp_35 lk_CutStones_Shine_38 (by decide) g2 ?_
  refine zv_iadd (pc := 38) d_X6_lightUp_38 ?_
  refine zv_aload_n (pc := 39) d_X6_lightUp_39 rfl ?_
  refine zx_getI (pc := 40) d_X6_lightUp_40 lk_CutStones_Shine_55 (by decide) g1 ?_
  refine zv_imul (pc := 43) d_X6_lightUp_43 ?_
  obtain ⟨x8, ex8, hf⟩ := zw_letE hf
  refine zx_istore (pc := 44) (x2 := x8) (L2 := [.ref v0, .ref v1, .ref v2, .int v3, .int x8, .null]) d_X6_lightUp_44 (by decide) ex8 rfl ?_
  refine zv_iconst (pc := 46) d_X6_lightUp_46 zc_i_0 ?_
  refine zx_istore (pc := 47) (x2 := 0) (L2 := [.ref v0, .ref v1, .ref v2, .int v3, .int x8, .int 0]) d_X6_lightUp_47 (by decide) rfl rfl ?_
  obtain ⟨q19, hq19, hf⟩ := zw_bdE hf
  refine zx_weak (L' := [.ref v0, .ref v1, .null, .null, .int x8, .int 0]) (zw_leS (zw_leS (zw_leN (zw_leN (zw_leS (zw_leS zw_leZ)))))) (s_X6_lightUp_49_lp X P v0 v1 R J _ _ _ hq19 ?_)
  show zy_V X M_X6_lightUp 3 P 106 [.ref v0, .ref v1, .null, .null, .int q19.1, .null] [] (q19.2, R, J)
  refine zv_iconst (pc := 106) d_X6_lightUp_106 zc_i_0 ?_
  refine zx_istore (pc := 107) (x2 := 0) (L2 := [.ref v0, .ref v1, .null, .null, .int q19.1, .int 0]) d_X6_lightUp_107 (by decide) rfl rfl ?_
  obtain ⟨q27, hq27, hf⟩ := zw_bdE hf
  refine zx_weak (L' := [.ref v0, .ref v1, .null, .null, .int q19.1, .int 0]) (zw_leS (zw_leS (zw_leN (zw_leN (zw_leS (zw_leS zw_leZ)))))) (s_X6_lightUp_109_lp X P v0 v1 q19.1 R J _ _ _ hq27 ?_)
  show zy_V X M_X6_lightUp 3 P 154 [.ref v0, .ref v1, .null, .null, .int q19.1, .null] [] (q27, R, J)
  refine zv_aload_n (pc := 154) d_X6_lightUp_154 rfl ?_
  obtain ⟨g28, hf⟩ := zw_gcE hf (by decide)
  refine zx_getR (pc := 155) d_X6_lightUp_155 lk_CutStones_Shine_9 (by decide) g2 g28 ?_
  refine zv_bipush (pc := 158) d_X6_lightUp_158 zc_b_8 ?_
  refine zv_iload (pc := 160) d_X6_lightUp_160 rfl ?_
  obtain ⟨i29, hf⟩ := zw_inE hf
  obtain ⟨I30, eI30, hf⟩ := zw_letE hf
  refine zx_iast (pc := 162) (I2 := I30) d_X6_lightUp_162 g28 i29 eI30 ?_
  refine zv_aload_n (pc := 163) d_X6_lightUp_163 rfl ?_
  refine zv_aload_n (pc := 164) d_X6_lightUp_164 rfl ?_
  obtain ⟨q31, hq31, hf⟩ := zw_bdE hf
  refine zx_callV (pc := 165) (As := [.ref v1]) (o := v0) (st := []) (d2 := 2) (M2 := M_X6_sumUp) (P2 := (fun r S => r = none ∧ S = (q31, R, J))) d_X6_lightUp_165 (zw_mG (List.mem_of_getElem? (i := 947) (by decide +kernel)) rfl) ce_X6_sumUp (zw_RvK g2 rfl rfl) (Nat.le_of_ble_eq_true rfl) rfl (Nat.le_of_ble_eq_true rfl) (by decide) (c_X6_sumUp X v0 v1 I30 R J _ hq31 ⟨rfl, rfl⟩) ?_
  rintro _ _ ⟨rfl, rfl⟩
  show zy_V X M_X6_lightUp 3 P (165 + 3) [.ref v0, .ref v1, .null, .null, .int q19.1, .null] [] (q31, R, J)
  cases hf
  exact zx_vret (pc := 168) d_X6_lightUp_168 rfl hk
abbrev M_J0_charAt_5068e : zw_M := (⟨"java/lang/String", "charAt", "(I)C"⟩, prog_17_method_56_code, 2, (Option.some Jvm.ClassFile.FieldType.char))
theorem d_J0_charAt_5068e_0 : decode M_J0_charAt_5068e.2.1 0 = .ok (.aload_n 0, 1) := by decide +kernel
theorem d_J0_charAt_5068e_1 : decode M_J0_charAt_5068e.2.1 1 = .ok (.invokevirtual 492, 3) := by decide +kernel
theorem d_J0_charAt_5068e_4 : decode M_J0_charAt_5068e.2.1 4 = .ok (.ifCond .eq 12, 3) := by decide +kernel
theorem d_J0_charAt_5068e_7 : decode M_J0_charAt_5068e.2.1 7 = .ok (.aload_n 0, 1) := by decide +kernel
theorem d_J0_charAt_5068e_8 : decode M_J0_charAt_5068e.2.1 8 = .ok (.getfield 9, 3) := by decide +kernel
theorem d_J0_charAt_5068e_11 : decode M_J0_charAt_5068e.2.1 11 = .ok (.iload_n 1, 1) := by decide +kernel
theorem d_J0_charAt_5068e_12 : decode M_J0_charAt_5068e.2.1 12 = .ok (.invokestatic 495, 3) := by decide +kernel
theorem d_J0_charAt_5068e_15 : decode M_J0_charAt_5068e.2.1 15 = .ok (.ireturn, 1) := by decide +kernel
theorem d_J0_charAt_5068e_16 : decode M_J0_charAt_5068e.2.1 16 = .ok (.aload_n 0, 1) := by decide +kernel
theorem d_J0_charAt_5068e_17 : decode M_J0_charAt_5068e.2.1 17 = .ok (.getfield 9, 3) := by decide +kernel
theorem d_J0_charAt_5068e_20 : decode M_J0_charAt_5068e.2.1 20 = .ok (.iload_n 1, 1) := by decide +kernel
theorem d_J0_charAt_5068e_21 : decode M_J0_charAt_5068e.2.1 21 = .ok (.invokestatic 498, 3) := by decide +kernel
theorem d_J0_charAt_5068e_24 : decode M_J0_charAt_5068e.2.1 24 = .ok (.ireturn, 1) := by decide +kernel
theorem ce_J0_charAt_5068e : zw_CeV M_J0_charAt_5068e 1 := ⟨⟨⟨by decide +kernel, by decide +kernel, by decide +kernel⟩, (zw_mG (List.mem_of_getElem? (i := 581) (by decide +kernel)) rfl), (zw_mG (List.mem_of_getElem? (i := 109) (by decide +kernel)) rfl), by decide, by decide +kernel⟩, (zw_mG (List.mem_of_getElem? (i := 579) (by decide +kernel)) rfl), (zw_mG (List.mem_of_getElem? (i := 580) (by decide +kernel)) rfl)⟩
def f_J0_charAt_5068e (v0 : Nat) (v1 : Int32)  : Option (Int32) :=
  zw_g (decide (v0 < 3)) ((f_J0_isLatin1_aae02 v0).bind fun q2 => (if q2 = 0 then none else (f_J1_charAt_3b067 v0 v1).bind fun q4 => (zw_g (decide ((q4.toUInt32 % 65536).toInt32 = q4)) (some q4))))
theorem c_J0_charAt_5068e (X : zw_X) (v0 : Nat) (v1 : Int32) (I : zI) (R : zR) (J : zJ) {P : Option Value → aS → Prop} (o : Int32) (hf : f_J0_charAt_5068e v0 v1  = some o) (hk : P (some (.int o)) (I, R, J)) : zw_C X M_J0_charAt_5068e 4 0 0 199 [.ref (1006 + v0), .int v1] (I, R, J) P := by
  show zy_V X M_J0_charAt_5068e 4 P 0 [.ref (1006 + v0), .int v1] [] (I, R, J)
  unfold f_J0_charAt_5068e at hf
  refine zv_aload_n (pc := 0) d_J0_charAt_5068e_0 rfl ?_
  obtain ⟨g1, hf⟩ := zw_gE hf
  have g1 := of_decide_eq_true g1
  obtain ⟨q2, hq2, hf⟩ := zw_bdE hf
  refine zx_callV (pc := 1) (As := []) (o := (1006 + v0)) (st := []) (d2 := 0) (M2 := M_J0_isLatin1_aae02) (P2 := (fun r S => r = (some (.int q2)) ∧ S = (I, R, J))) d_J0_charAt_5068e_1 (zw_mG (List.mem_of_getElem? (i := 582) (by decide +kernel)) rfl) ce_J0_isLatin1_aae02 (Or.inr ⟨rfl, v0, g1, rfl⟩) (Nat.le_of_ble_eq_true rfl) rfl (Nat.le_of_ble_eq_true rfl) (by decide) (c_J0_isLatin1_aae02 X v0 I R J _ hq2 ⟨rfl, rfl⟩) ?_
  rintro _ _ ⟨rfl, rfl⟩
  show zy_V X M_J0_charAt_5068e 4 P (1 + 3) [.ref (1006 + v0), .int v1] [.int q2] (I, R, J)
  rcases zw_ifE hf with ⟨c3, hf⟩ | ⟨c3, hf⟩
  · refine zv_if_eq (pc := 4) (tg := 16) d_J0_charAt_5068e_4 (by decide) (fun _ => ?_) (fun q => absurd c3 q)
    refine zv_aload_n (pc := 16) d_J0_charAt_5068e_16 rfl ?_
    refine zv_sval (pc := 17) d_J0_charAt_5068e_17 g1 (zw_mG (List.mem_of_getElem? (i := 1729) (by decide +kernel)) rfl) ?_
    refine zv_iload_n (pc := 20) d_J0_charAt_5068e_20 rfl ?_
    cases hf
  · refine zv_if_eq (pc := 4) (tg := 16) d_J0_charAt_5068e_4 (by decide) (fun q => absurd q c3) (fun _ => ?_)
    refine zv_aload_n (pc := 7) d_J0_charAt_5068e_7 rfl ?_
    refine zv_sval (pc := 8) d_J0_charAt_5068e_8 g1 (zw_mG (List.mem_of_getElem? (i := 1729) (by decide +kernel)) rfl) ?_
    refine zv_iload_n (pc := 11) d_J0_charAt_5068e_11 rfl ?_
    obtain ⟨q4, hq4, hf⟩ := zw_bdE hf
    refine zx_callS (pc := 12) (As := [.ref (1009 + v0), .int v1]) (st := []) (d2 := 2) (M2 := M_J1_charAt_3b067) (P2 := (fun r S => r = (some (.int q4)) ∧ S = (I, R, J))) d_J0_charAt_5068e_12 (zw_mG (List.mem_of_getElem? (i := 586) (by decide +kernel)) rfl) ce_J1_charAt_3b067 (Nat.le_of_ble_eq_true rfl) rfl (Nat.le_of_ble_eq_true rfl) (by decide) (c_J1_charAt_3b067 X v0 v1 I R J _ hq4 ⟨rfl, rfl⟩) ?_
    rintro _ _ ⟨rfl, rfl⟩
    show zy_V X M_J0_charAt_5068e 4 P (12 + 3) [.ref (1006 + v0), .int v1] [.int q4] (I, R, J)
    obtain ⟨c5, hf⟩ := zw_gE hf
    have c5 := of_decide_eq_true c5
    cases hf
    rw [← c5] at hk ⊢
    exact zx_cret (pc := 15) d_J0_charAt_5068e_15 rfl hk
