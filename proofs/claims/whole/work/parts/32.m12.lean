abbrev M_X11_even : zw_M := (⟨"CutStonesModel", "even", "(I)I"⟩, prog_13_method_55_code, 5, (Option.some Jvm.ClassFile.FieldType.int))
theorem d_X11_even_0 : decode M_X11_even.2.1 0 = .ok (.aload_n 0, 1) := by decide +kernel
theorem d_X11_even_1 : decode M_X11_even.2.1 1 = .ok (.iload_n 1, 1) := by decide +kernel
theorem d_X11_even_2 : decode M_X11_even.2.1 2 = .ok (.invokevirtual 380, 3) := by decide +kernel
theorem d_X11_even_5 : decode M_X11_even.2.1 5 = .ok (.istore_n 2, 1) := by decide +kernel
theorem d_X11_even_6 : decode M_X11_even.2.1 6 = .ok (.iload_n 2, 1) := by decide +kernel
theorem d_X11_even_7 : decode M_X11_even.2.1 7 = .ok (.iconst (-1), 1) := by decide +kernel
theorem d_X11_even_8 : decode M_X11_even.2.1 8 = .ok (.if_icmp .ne 5, 3) := by decide +kernel
theorem d_X11_even_11 : decode M_X11_even.2.1 11 = .ok (.iconst (-1), 1) := by decide +kernel
theorem d_X11_even_12 : decode M_X11_even.2.1 12 = .ok (.ireturn, 1) := by decide +kernel
theorem d_X11_even_13 : decode M_X11_even.2.1 13 = .ok (.iconst 0, 1) := by decide +kernel
theorem d_X11_even_14 : decode M_X11_even.2.1 14 = .ok (.istore_n 3, 1) := by decide +kernel
theorem d_X11_even_15 : decode M_X11_even.2.1 15 = .ok (.iload_n 3, 1) := by decide +kernel
theorem d_X11_even_16 : decode M_X11_even.2.1 16 = .ok (.aload_n 0, 1) := by decide +kernel
theorem d_X11_even_17 : decode M_X11_even.2.1 17 = .ok (.getfield 67, 3) := by decide +kernel
theorem d_X11_even_20 : decode M_X11_even.2.1 20 = .ok (.iload_n 2, 1) := by decide +kernel
theorem d_X11_even_21 : decode M_X11_even.2.1 21 = .ok (.iaload, 1) := by decide +kernel
theorem d_X11_even_22 : decode M_X11_even.2.1 22 = .ok (.if_icmp .ge 62, 3) := by decide +kernel
theorem d_X11_even_25 : decode M_X11_even.2.1 25 = .ok (.iconst 0, 1) := by decide +kernel
theorem d_X11_even_26 : decode M_X11_even.2.1 26 = .ok (.istore 4, 2) := by decide +kernel
theorem d_X11_even_28 : decode M_X11_even.2.1 28 = .ok (.iload 4, 2) := by decide +kernel
theorem d_X11_even_30 : decode M_X11_even.2.1 30 = .ok (.aload_n 0, 1) := by decide +kernel
theorem d_X11_even_31 : decode M_X11_even.2.1 31 = .ok (.getfield 64, 3) := by decide +kernel
theorem d_X11_even_34 : decode M_X11_even.2.1 34 = .ok (.iload_n 2, 1) := by decide +kernel
theorem d_X11_even_35 : decode M_X11_even.2.1 35 = .ok (.iaload, 1) := by decide +kernel
theorem d_X11_even_36 : decode M_X11_even.2.1 36 = .ok (.if_icmp .ge 42, 3) := by decide +kernel
theorem d_X11_even_39 : decode M_X11_even.2.1 39 = .ok (.aload_n 0, 1) := by decide +kernel
theorem d_X11_even_40 : decode M_X11_even.2.1 40 = .ok (.iload_n 2, 1) := by decide +kernel
theorem d_X11_even_41 : decode M_X11_even.2.1 41 = .ok (.iload 4, 2) := by decide +kernel
theorem d_X11_even_43 : decode M_X11_even.2.1 43 = .ok (.iload_n 3, 1) := by decide +kernel
theorem d_X11_even_44 : decode M_X11_even.2.1 44 = .ok (.invokevirtual 352, 3) := by decide +kernel
theorem d_X11_even_47 : decode M_X11_even.2.1 47 = .ok (.aload_n 0, 1) := by decide +kernel
theorem d_X11_even_48 : decode M_X11_even.2.1 48 = .ok (.iload_n 2, 1) := by decide +kernel
theorem d_X11_even_49 : decode M_X11_even.2.1 49 = .ok (.aload_n 0, 1) := by decide +kernel
theorem d_X11_even_50 : decode M_X11_even.2.1 50 = .ok (.getfield 64, 3) := by decide +kernel
theorem d_X11_even_53 : decode M_X11_even.2.1 53 = .ok (.iload_n 2, 1) := by decide +kernel
theorem d_X11_even_54 : decode M_X11_even.2.1 54 = .ok (.iaload, 1) := by decide +kernel
theorem d_X11_even_55 : decode M_X11_even.2.1 55 = .ok (.iconst 1, 1) := by decide +kernel
theorem d_X11_even_56 : decode M_X11_even.2.1 56 = .ok (.isub, 1) := by decide +kernel
theorem d_X11_even_57 : decode M_X11_even.2.1 57 = .ok (.iload 4, 2) := by decide +kernel
theorem d_X11_even_59 : decode M_X11_even.2.1 59 = .ok (.isub, 1) := by decide +kernel
theorem d_X11_even_60 : decode M_X11_even.2.1 60 = .ok (.iload_n 3, 1) := by decide +kernel
theorem d_X11_even_61 : decode M_X11_even.2.1 61 = .ok (.invokevirtual 352, 3) := by decide +kernel
theorem d_X11_even_64 : decode M_X11_even.2.1 64 = .ok (.invokestatic 390, 3) := by decide +kernel
theorem d_X11_even_67 : decode M_X11_even.2.1 67 = .ok (.if_icmp .eq 5, 3) := by decide +kernel
theorem d_X11_even_70 : decode M_X11_even.2.1 70 = .ok (.iconst 0, 1) := by decide +kernel
theorem d_X11_even_71 : decode M_X11_even.2.1 71 = .ok (.ireturn, 1) := by decide +kernel
theorem d_X11_even_72 : decode M_X11_even.2.1 72 = .ok (.iinc 4 1, 3) := by decide +kernel
theorem d_X11_even_75 : decode M_X11_even.2.1 75 = .ok (.goto (-47), 3) := by decide +kernel
theorem d_X11_even_78 : decode M_X11_even.2.1 78 = .ok (.iinc 3 1, 3) := by decide +kernel
theorem d_X11_even_81 : decode M_X11_even.2.1 81 = .ok (.goto (-66), 3) := by decide +kernel
theorem d_X11_even_84 : decode M_X11_even.2.1 84 = .ok (.iconst 1, 1) := by decide +kernel
theorem d_X11_even_85 : decode M_X11_even.2.1 85 = .ok (.ireturn, 1) := by decide +kernel
theorem ce_X11_even : zw_CeV M_X11_even 1 := ⟨⟨⟨by decide +kernel, by decide +kernel, by decide +kernel⟩, (zw_mG (List.mem_of_getElem? (i := 1544) (by decide +kernel)) rfl), (zw_mG (List.mem_of_getElem? (i := 108) (by decide +kernel)) rfl), by decide, by decide +kernel⟩, (zw_mG (List.mem_of_getElem? (i := 1542) (by decide +kernel)) rfl), (zw_mG (List.mem_of_getElem? (i := 1543) (by decide +kernel)) rfl)⟩
def s_X11_even_28 (v0 : Nat) (v2 : Int32) (v3 : Int32) (I : zI) (R : zR) (s : Int32) : Option ((Int32) ⊕ ((Unit) ⊕ (Unit))) :=
  zw_g (zw_gc v0 11) (zw_g (zw_gc (R v0 28) 13) (zw_g (zw_in v2 (zw_SH (R v0 28)).2) (if (I (R v0 28) (Int32.toNatClampNeg v2)) ≤ s then some (.inr (.inl ())) else (f_X11_cellAt v0 v2 s v3 I R).bind fun q12 => (zw_g (zw_in v2 (zw_SH (R v0 28)).2) ((f_X11_cellAt v0 v2 (((I (R v0 28) (Int32.toNatClampNeg v2)) - 1) - s) v3 I R).bind fun q14 => ((f_X11_mirrored q14).bind fun q15 => (if q12 = q15 then zw_let (s + 1 : Int32) fun x17 => (some (.inl x17)) else some (.inr (.inr ())))))))))
theorem s_X11_even_28_ok (X : zw_X) (P : Option Value → aS → Prop) (v0 : Nat) (v2 : Int32) (v3 : Int32) (I : zI) (R : zR) (J : zJ) (s : Int32) (o : (Int32) ⊕ ((Unit) ⊕ (Unit))) (hf : s_X11_even_28 v0 v2 v3 I R s = some o) (hk : (zw_se (fun t => zy_V X M_X11_even 2 P 28 [.ref v0, .null, .int v2, .int v3, .int t] [] (I, R, J)) (fun r => (zw_se (fun r0 => zy_V X M_X11_even 2 P 78 [.ref v0, .null, .int v2, .int v3, .null] [] (I, R, J)) (fun t0 => zy_V X M_X11_even 2 P 70 [.null, .null, .null, .null, .null] [] (I, R, J)) r)) o)) : zy_V X M_X11_even 2 P 28 [.ref v0, .null, .int v2, .int v3, .int s] [] (I, R, J) := by
  unfold s_X11_even_28 at hf
  refine zv_iload (pc := 28) d_X11_even_28 rfl ?_
  refine zv_aload_n (pc := 30) d_X11_even_30 rfl ?_
  obtain ⟨g8, hf⟩ := zw_gcE hf (by decide)
  obtain ⟨g9, hf⟩ := zw_gcE hf (by decide)
  refine zx_getR (pc := 31) d_X11_even_31 lk_CutStonesModel_64 (by decide) g8 g9 ?_
  refine zv_iload_n (pc := 34) d_X11_even_34 rfl ?_
  obtain ⟨i10, hf⟩ := zw_inE hf
  refine zx_iald (pc := 35) d_X11_even_35 g9 i10 ?_
  rcases zw_ifE hf with ⟨c11, hf⟩ | ⟨c11, hf⟩
  · refine zv_icmp_ge (pc := 36) (tg := 78) d_X11_even_36 (by decide) (fun _ => ?_) (fun q => absurd c11 q)
    cases hf
    exact zx_weak (zw_leS (zw_leN (zw_leS (zw_leS (zw_leN zw_leZ))))) hk
  · refine zv_icmp_ge (pc := 36) (tg := 78) d_X11_even_36 (by decide) (fun q => absurd q c11) (fun _ => ?_)
    refine zv_aload_n (pc := 39) d_X11_even_39 rfl ?_
    refine zv_iload_n (pc := 40) d_X11_even_40 rfl ?_
    refine zv_iload (pc := 41) d_X11_even_41 rfl ?_
    refine zv_iload_n (pc := 43) d_X11_even_43 rfl ?_
    obtain ⟨q12, hq12, hf⟩ := zw_bdE hf
    refine zx_callV (pc := 44) (As := [.int v2, .int s, .int v3]) (o := v0) (st := []) (d2 := 0) (M2 := M_X11_cellAt) (P2 := (fun r S => r = (some (.int q12)) ∧ S = (I, R, J))) d_X11_even_44 (zw_mG (List.mem_of_getElem? (i := 1533) (by decide +kernel)) rfl) ce_X11_cellAt (zw_RvK g8 rfl rfl) (Nat.le_of_ble_eq_true rfl) rfl (Nat.le_of_ble_eq_true rfl) (by decide) (c_X11_cellAt X v0 v2 s v3 I R J _ hq12 ⟨rfl, rfl⟩) ?_
    rintro _ _ ⟨rfl, rfl⟩
    show zy_V X M_X11_even 2 P (44 + 3) [.ref v0, .null, .int v2, .int v3, .int s] [.int q12] (I, R, J)
    refine zv_aload_n (pc := 47) d_X11_even_47 rfl ?_
    refine zv_iload_n (pc := 48) d_X11_even_48 rfl ?_
    refine zv_aload_n (pc := 49) d_X11_even_49 rfl ?_
    refine zx_getR (pc := 50) d_X11_even_50 lk_CutStonesModel_64 (by decide) g8 g9 ?_
    refine zv_iload_n (pc := 53) d_X11_even_53 rfl ?_
    obtain ⟨i13, hf⟩ := zw_inE hf
    refine zx_iald (pc := 54) d_X11_even_54 g9 i13 ?_
    refine zv_iconst (pc := 55) d_X11_even_55 zc_i_1 ?_
    refine zv_isub (pc := 56) d_X11_even_56 ?_
    refine zv_iload (pc := 57) d_X11_even_57 rfl ?_
    refine zv_isub (pc := 59) d_X11_even_59 ?_
    refine zv_iload_n (pc := 60) d_X11_even_60 rfl ?_
    obtain ⟨q14, hq14, hf⟩ := zw_bdE hf
    refine zx_callV (pc := 61) (As := [.int v2, .int (((I (R v0 28) (Int32.toNatClampNeg v2)) - 1) - s), .int v3]) (o := v0) (st := [.int q12]) (d2 := 0) (M2 := M_X11_cellAt) (P2 := (fun r S => r = (some (.int q14)) ∧ S = (I, R, J))) d_X11_even_61 (zw_mG (List.mem_of_getElem? (i := 1533) (by decide +kernel)) rfl) ce_X11_cellAt (zw_RvK g8 rfl rfl) (Nat.le_of_ble_eq_true rfl) rfl (Nat.le_of_ble_eq_true rfl) (by decide) (c_X11_cellAt X v0 v2 (((I (R v0 28) (Int32.toNatClampNeg v2)) - 1) - s) v3 I R J _ hq14 ⟨rfl, rfl⟩) ?_
    rintro _ _ ⟨rfl, rfl⟩
    show zy_V X M_X11_even 2 P (61 + 3) [.ref v0, .null, .int v2, .int v3, .int s] [.int q14, .int q12] (I, R, J)
    obtain ⟨q15, hq15, hf⟩ := zw_bdE hf
    refine zx_callS (pc := 64) (As := [.int q14]) (st := [.int q12]) (d2 := 0) (M2 := M_X11_mirrored) (P2 := (fun r S => r = (some (.int q15)) ∧ S = (I, R, J))) d_X11_even_64 (zw_mG (List.mem_of_getElem? (i := 1545) (by decide +kernel)) rfl) ce_X11_mirrored (Nat.le_of_ble_eq_true rfl) rfl (Nat.le_of_ble_eq_true rfl) (by decide) (c_X11_mirrored X q14 I R J _ hq15 ⟨rfl, rfl⟩) ?_
    rintro _ _ ⟨rfl, rfl⟩
    show zy_V X M_X11_even 2 P (64 + 3) [.ref v0, .null, .int v2, .int v3, .int s] [.int q15, .int q12] (I, R, J)
    rcases zw_ifE hf with ⟨c16, hf⟩ | ⟨c16, hf⟩
    · refine zv_icmp_eq (pc := 67) (tg := 72) d_X11_even_67 (by decide) (fun _ => ?_) (fun q => absurd c16 q)
      obtain ⟨x17, ex17, hf⟩ := zw_letE hf
      refine zx_iinc (pc := 72) (x2 := x17) (L2 := [.ref v0, .null, .int v2, .int v3, .int x17]) d_X11_even_72 (by decide) rfl zc_i_1 ex17 rfl ?_
      refine zv_goto (pc := 75) (tg := 28) d_X11_even_75 (by decide) ?_
      cases hf
      exact zx_weak (zw_leS (zw_leN (zw_leS (zw_leS (zw_leS zw_leZ))))) hk
    · refine zv_icmp_eq (pc := 67) (tg := 72) d_X11_even_67 (by decide) (fun q => absurd q c16) (fun _ => ?_)
      cases hf
      exact zx_weak (zw_leN (zw_leN (zw_leN (zw_leN (zw_leN zw_leZ))))) hk
theorem s_X11_even_28_lp (X : zw_X) (P : Option Value → aS → Prop) (v0 : Nat) (v2 : Int32) (v3 : Int32) (I : zI) (R : zR) (J : zJ) (n : Nat) (s : Int32) (r : (Unit) ⊕ (Unit)) (h : zw_it (s_X11_even_28 v0 v2 v3 I R) n s = some r) (hq : (zw_se (fun r0 => zy_V X M_X11_even 2 P 78 [.ref v0, .null, .int v2, .int v3, .null] [] (I, R, J)) (fun t0 => zy_V X M_X11_even 2 P 70 [.null, .null, .null, .null, .null] [] (I, R, J)) r)) : zy_V X M_X11_even 2 P 28 [.ref v0, .null, .int v2, .int v3, .int s] [] (I, R, J) :=
  zw_itE (A := (fun t : Int32 => zy_V X M_X11_even 2 P 28 [.ref v0, .null, .int v2, .int v3, .int t] [] (I, R, J))) (Q := (fun r : (Unit) ⊕ (Unit) => (zw_se (fun r0 => zy_V X M_X11_even 2 P 78 [.ref v0, .null, .int v2, .int v3, .null] [] (I, R, J)) (fun t0 => zy_V X M_X11_even 2 P 70 [.null, .null, .null, .null, .null] [] (I, R, J)) r))) (fun s o h1 h2 => s_X11_even_28_ok X P v0 v2 v3 I R J s o h1 h2) n s r h hq
def s_X11_even_15 (v0 : Nat) (v2 : Int32) (I : zI) (R : zR) (s : Int32) : Option ((Int32) ⊕ ((Unit) ⊕ (Unit))) :=
  zw_g (zw_gc v0 11) (zw_g (zw_gc (R v0 29) 13) (zw_g (zw_in v2 (zw_SH (R v0 29)).2) (if (I (R v0 29) (Int32.toNatClampNeg v2)) ≤ s then some (.inr (.inl ())) else (zw_it (s_X11_even_28 v0 v2 s I R) 1000000 0).bind fun q18 => (match q18 with | .inl a19 => (zw_let (s + 1 : Int32) fun x21 => (some (.inl x21))) | .inr a20 => (some (.inr (.inr ())))))))
theorem s_X11_even_15_ok (X : zw_X) (P : Option Value → aS → Prop) (v0 : Nat) (v2 : Int32) (I : zI) (R : zR) (J : zJ) (s : Int32) (o : (Int32) ⊕ ((Unit) ⊕ (Unit))) (hf : s_X11_even_15 v0 v2 I R s = some o) (hk : (zw_se (fun t => zy_V X M_X11_even 2 P 15 [.ref v0, .null, .int v2, .int t, .null] [] (I, R, J)) (fun r => (zw_se (fun r0 => zy_V X M_X11_even 2 P 84 [.null, .null, .null, .null, .null] [] (I, R, J)) (fun t0 => zy_V X M_X11_even 2 P 70 [.null, .null, .null, .null, .null] [] (I, R, J)) r)) o)) : zy_V X M_X11_even 2 P 15 [.ref v0, .null, .int v2, .int s, .null] [] (I, R, J) := by
  unfold s_X11_even_15 at hf
  refine zv_iload_n (pc := 15) d_X11_even_15 rfl ?_
  refine zv_aload_n (pc := 16) d_X11_even_16 rfl ?_
  obtain ⟨g4, hf⟩ := zw_gcE hf (by decide)
  obtain ⟨g5, hf⟩ := zw_gcE hf (by decide)
  refine zx_getR (pc := 17) d_X11_even_17 lk_CutStonesModel_67 (by decide) g4 g5 ?_
  refine zv_iload_n (pc := 20) d_X11_even_20 rfl ?_
  obtain ⟨i6, hf⟩ := zw_inE hf
  refine zx_iald (pc := 21) d_X11_even_21 g5 i6 ?_
  rcases zw_ifE hf with ⟨c7, hf⟩ | ⟨c7, hf⟩
  · refine zv_icmp_ge (pc := 22) (tg := 84) d_X11_even_22 (by decide) (fun _ => ?_) (fun q => absurd c7 q)
    cases hf
    exact zx_weak (zw_leN (zw_leN (zw_leN (zw_leN (zw_leN zw_leZ))))) hk
  · refine zv_icmp_ge (pc := 22) (tg := 84) d_X11_even_22 (by decide) (fun q => absurd q c7) (fun _ => ?_)
    refine zv_iconst (pc := 25) d_X11_even_25 zc_i_0 ?_
    refine zx_istore (pc := 26) (x2 := 0) (L2 := [.ref v0, .null, .int v2, .int s, .int 0]) d_X11_even_26 (by decide) rfl rfl ?_
    obtain ⟨q18, hq18, hf⟩ := zw_bdE hf
    refine zx_weak (L' := [.ref v0, .null, .int v2, .int s, .int 0]) (zw_leS (zw_leN (zw_leS (zw_leS (zw_leS zw_leZ))))) (s_X11_even_28_lp X P v0 v2 s I R J _ _ _ hq18 ?_)
    rcases q18 with a19 | a20
    ·
      show zy_V X M_X11_even 2 P 78 [.ref v0, .null, .int v2, .int s, .null] [] (I, R, J)
      obtain ⟨x21, ex21, hf⟩ := zw_letE hf
      refine zx_iinc (pc := 78) (x2 := x21) (L2 := [.ref v0, .null, .int v2, .int x21, .null]) d_X11_even_78 (by decide) rfl zc_i_1 ex21 rfl ?_
      refine zv_goto (pc := 81) (tg := 15) d_X11_even_81 (by decide) ?_
      cases hf
      exact zx_weak (zw_leS (zw_leN (zw_leS (zw_leS (zw_leN zw_leZ))))) hk
    ·
      show zy_V X M_X11_even 2 P 70 [.null, .null, .null, .null, .null] [] (I, R, J)
      cases hf
      exact zx_weak (zw_leN (zw_leN (zw_leN (zw_leN (zw_leN zw_leZ))))) hk
theorem s_X11_even_15_lp (X : zw_X) (P : Option Value → aS → Prop) (v0 : Nat) (v2 : Int32) (I : zI) (R : zR) (J : zJ) (n : Nat) (s : Int32) (r : (Unit) ⊕ (Unit)) (h : zw_it (s_X11_even_15 v0 v2 I R) n s = some r) (hq : (zw_se (fun r0 => zy_V X M_X11_even 2 P 84 [.null, .null, .null, .null, .null] [] (I, R, J)) (fun t0 => zy_V X M_X11_even 2 P 70 [.null, .null, .null, .null, .null] [] (I, R, J)) r)) : zy_V X M_X11_even 2 P 15 [.ref v0, .null, .int v2, .int s, .null] [] (I, R, J) :=
  zw_itE (A := (fun t : Int32 => zy_V X M_X11_even 2 P 15 [.ref v0, .null, .int v2, .int t, .null] [] (I, R, J))) (Q := (fun r : (Unit) ⊕ (Unit) => (zw_se (fun r0 => zy_V X M_X11_even 2 P 84 [.null, .null, .null, .null, .null] [] (I, R, J)) (fun t0 => zy_V X M_X11_even 2 P 70 [.null, .null, .null, .null, .null] [] (I, R, J)) r))) (fun s o h1 h2 => s_X11_even_15_ok X P v0 v2 I R J s o h1 h2) n s r h hq
def f_X11_even (v0 : Nat) (v1 : Int32) (I : zI) (R : zR) : Option (Int32) :=
  zw_g (zw_gc v0 11) ((f_X11_cutRow v0 v1 I R).bind fun q2 => (if ¬ q2 = (-1) then (zw_it (s_X11_even_15 v0 q2 I R) 1000000 0).bind fun q22 => (match q22 with | .inl a23 => (some 1) | .inr a24 => (some 0)) else some (-1)))
theorem c_X11_even (X : zw_X) (v0 : Nat) (v1 : Int32) (I : zI) (R : zR) (J : zJ) {P : Option Value → aS → Prop} (o : Int32) (hf : f_X11_even v0 v1 I R = some o) (hk : P (some (.int o)) (I, R, J)) : zw_C X M_X11_even 2 0 0 199 [.ref v0, .int v1] (I, R, J) P := by
  show zy_V X M_X11_even 2 P 0 [.ref v0, .int v1, .null, .null, .null] [] (I, R, J)
  unfold f_X11_even at hf
  refine zv_aload_n (pc := 0) d_X11_even_0 rfl ?_
  refine zv_iload_n (pc := 1) d_X11_even_1 rfl ?_
  obtain ⟨g1, hf⟩ := zw_gcE hf (by decide)
  obtain ⟨q2, hq2, hf⟩ := zw_bdE hf
  refine zx_callV (pc := 2) (As := [.int v1]) (o := v0) (st := []) (d2 := 1) (M2 := M_X11_cutRow) (P2 := (fun r S => r = (some (.int q2)) ∧ S = (I, R, J))) d_X11_even_2 (zw_mG (List.mem_of_getElem? (i := 1525) (by decide +kernel)) rfl) ce_X11_cutRow (zw_RvK g1 rfl rfl) (Nat.le_of_ble_eq_true rfl) rfl (Nat.le_of_ble_eq_true rfl) (by decide) (c_X11_cutRow X v0 v1 I R J _ hq2 ⟨rfl, rfl⟩) ?_
  rintro _ _ ⟨rfl, rfl⟩
  show zy_V X M_X11_even 2 P (2 + 3) [.ref v0, .int v1, .null, .null, .null] [.int q2] (I, R, J)
  refine zx_istore_n (pc := 5) (x2 := q2) (L2 := [.ref v0, .int v1, .int q2, .null, .null]) d_X11_even_5 (by decide) rfl rfl ?_
  refine zv_iload_n (pc := 6) d_X11_even_6 rfl ?_
  refine zv_iconst (pc := 7) d_X11_even_7 zc_i_m1 ?_
  rcases zw_ifE hf with ⟨c3, hf⟩ | ⟨c3, hf⟩
  · refine zv_icmp_ne (pc := 8) (tg := 13) d_X11_even_8 (by decide) (fun _ => ?_) (fun q => absurd q c3)
    refine zv_iconst (pc := 13) d_X11_even_13 zc_i_0 ?_
    refine zx_istore_n (pc := 14) (x2 := 0) (L2 := [.ref v0, .int v1, .int q2, .int 0, .null]) d_X11_even_14 (by decide) rfl rfl ?_
    obtain ⟨q22, hq22, hf⟩ := zw_bdE hf
    refine zx_weak (L' := [.ref v0, .null, .int q2, .int 0, .null]) (zw_leS (zw_leN (zw_leS (zw_leS (zw_leN zw_leZ))))) (s_X11_even_15_lp X P v0 q2 I R J _ _ _ hq22 ?_)
    rcases q22 with a23 | a24
    ·
      show zy_V X M_X11_even 2 P 84 [.null, .null, .null, .null, .null] [] (I, R, J)
      refine zv_iconst (pc := 84) d_X11_even_84 zc_i_1 ?_
      cases hf
      exact zx_iret (pc := 85) d_X11_even_85 rfl hk
    ·
      show zy_V X M_X11_even 2 P 70 [.null, .null, .null, .null, .null] [] (I, R, J)
      refine zv_iconst (pc := 70) d_X11_even_70 zc_i_0 ?_
      cases hf
      exact zx_iret (pc := 71) d_X11_even_71 rfl hk
  · refine zv_icmp_ne (pc := 8) (tg := 13) d_X11_even_8 (by decide) (fun q => absurd q c3) (fun _ => ?_)
    refine zv_iconst (pc := 11) d_X11_even_11 zc_i_m1 ?_
    cases hf
    exact zx_iret (pc := 12) d_X11_even_12 rfl hk
abbrev M_X11_firstPlace : zw_M := (⟨"CutStonesModel", "firstPlace", "(IIII)I"⟩, prog_13_method_71_code, 6, (Option.some Jvm.ClassFile.FieldType.int))
theorem d_X11_firstPlace_0 : decode M_X11_firstPlace.2.1 0 = .ok (.iconst 0, 1) := by decide +kernel
theorem d_X11_firstPlace_1 : decode M_X11_firstPlace.2.1 1 = .ok (.istore 5, 2) := by decide +kernel
theorem d_X11_firstPlace_3 : decode M_X11_firstPlace.2.1 3 = .ok (.iload 5, 2) := by decide +kernel
theorem d_X11_firstPlace_5 : decode M_X11_firstPlace.2.1 5 = .ok (.sipush 144, 3) := by decide +kernel
theorem d_X11_firstPlace_8 : decode M_X11_firstPlace.2.1 8 = .ok (.if_icmp .ge 34, 3) := by decide +kernel
theorem d_X11_firstPlace_11 : decode M_X11_firstPlace.2.1 11 = .ok (.aload_n 0, 1) := by decide +kernel
theorem d_X11_firstPlace_12 : decode M_X11_firstPlace.2.1 12 = .ok (.iload_n 1, 1) := by decide +kernel
theorem d_X11_firstPlace_13 : decode M_X11_firstPlace.2.1 13 = .ok (.iload_n 2, 1) := by decide +kernel
theorem d_X11_firstPlace_14 : decode M_X11_firstPlace.2.1 14 = .ok (.iload 5, 2) := by decide +kernel
theorem d_X11_firstPlace_16 : decode M_X11_firstPlace.2.1 16 = .ok (.bipush 12, 2) := by decide +kernel
theorem d_X11_firstPlace_18 : decode M_X11_firstPlace.2.1 18 = .ok (.irem, 1) := by decide +kernel
theorem d_X11_firstPlace_19 : decode M_X11_firstPlace.2.1 19 = .ok (.iload 5, 2) := by decide +kernel
theorem d_X11_firstPlace_21 : decode M_X11_firstPlace.2.1 21 = .ok (.bipush 12, 2) := by decide +kernel
theorem d_X11_firstPlace_23 : decode M_X11_firstPlace.2.1 23 = .ok (.idiv, 1) := by decide +kernel
theorem d_X11_firstPlace_24 : decode M_X11_firstPlace.2.1 24 = .ok (.iload_n 3, 1) := by decide +kernel
theorem d_X11_firstPlace_25 : decode M_X11_firstPlace.2.1 25 = .ok (.iload 4, 2) := by decide +kernel
theorem d_X11_firstPlace_27 : decode M_X11_firstPlace.2.1 27 = .ok (.invokevirtual 430, 3) := by decide +kernel
theorem d_X11_firstPlace_30 : decode M_X11_firstPlace.2.1 30 = .ok (.ifCond .eq 6, 3) := by decide +kernel
theorem d_X11_firstPlace_33 : decode M_X11_firstPlace.2.1 33 = .ok (.iload 5, 2) := by decide +kernel
theorem d_X11_firstPlace_35 : decode M_X11_firstPlace.2.1 35 = .ok (.ireturn, 1) := by decide +kernel
theorem d_X11_firstPlace_36 : decode M_X11_firstPlace.2.1 36 = .ok (.iinc 5 1, 3) := by decide +kernel
theorem d_X11_firstPlace_39 : decode M_X11_firstPlace.2.1 39 = .ok (.goto (-36), 3) := by decide +kernel
theorem d_X11_firstPlace_42 : decode M_X11_firstPlace.2.1 42 = .ok (.iconst (-1), 1) := by decide +kernel
theorem d_X11_firstPlace_43 : decode M_X11_firstPlace.2.1 43 = .ok (.ireturn, 1) := by decide +kernel
theorem ce_X11_firstPlace : zw_CeV M_X11_firstPlace 4 := ⟨⟨⟨by decide +kernel, by decide +kernel, by decide +kernel⟩, (zw_mG (List.mem_of_getElem? (i := 1672) (by decide +kernel)) rfl), (zw_mG (List.mem_of_getElem? (i := 108) (by decide +kernel)) rfl), by decide, by decide +kernel⟩, (zw_mG (List.mem_of_getElem? (i := 1671) (by decide +kernel)) rfl), (zw_mG (List.mem_of_getElem? (i := 89) (by decide +kernel)) rfl)⟩
def s_X11_firstPlace_3 (v0 : Nat) (v1 : Int32) (v2 : Int32) (v3 : Int32) (v4 : Int32) (I : zI) (R : zR) (s : Int32) : Option ((Int32) ⊕ ((Unit) ⊕ (Int32))) :=
  if 144 ≤ s then some (.inr (.inl ())) else zw_g (zw_gc v0 11) ((f_X11_lies v0 v1 v2 (s - s / 12 * 12) (s / 12) v3 v4 I R).bind fun q3 => (if q3 = 0 then zw_let (s + 1 : Int32) fun x5 => (some (.inl x5)) else some (.inr (.inr s))))
theorem s_X11_firstPlace_3_ok (X : zw_X) (P : Option Value → aS → Prop) (v0 : Nat) (v1 : Int32) (v2 : Int32) (v3 : Int32) (v4 : Int32) (I : zI) (R : zR) (J : zJ) (s : Int32) (o : (Int32) ⊕ ((Unit) ⊕ (Int32))) (hf : s_X11_firstPlace_3 v0 v1 v2 v3 v4 I R s = some o) (hk : (zw_se (fun t => zy_V X M_X11_firstPlace 2 P 3 [.ref v0, .int v1, .int v2, .int v3, .int v4, .int t] [] (I, R, J)) (fun r => (zw_se (fun r0 => zy_V X M_X11_firstPlace 2 P 42 [.null, .null, .null, .null, .null, .null] [] (I, R, J)) (fun t0 => zy_V X M_X11_firstPlace 2 P 33 [.null, .null, .null, .null, .null, .int t0] [] (I, R, J)) r)) o)) : zy_V X M_X11_firstPlace 2 P 3 [.ref v0, .int v1, .int v2, .int v3, .int v4, .int s] [] (I, R, J) := by
  unfold s_X11_firstPlace_3 at hf
  refine zv_iload (pc := 3) d_X11_firstPlace_3 rfl ?_
  refine zv_sipush (pc := 5) d_X11_firstPlace_5 zc_s_144 ?_
  rcases zw_ifE hf with ⟨c1, hf⟩ | ⟨c1, hf⟩
  · refine zv_icmp_ge (pc := 8) (tg := 42) d_X11_firstPlace_8 (by decide) (fun _ => ?_) (fun q => absurd c1 q)
    cases hf
    exact zx_weak (zw_leN (zw_leN (zw_leN (zw_leN (zw_leN (zw_leN zw_leZ)))))) hk
  · refine zv_icmp_ge (pc := 8) (tg := 42) d_X11_firstPlace_8 (by decide) (fun q => absurd q c1) (fun _ => ?_)
    refine zv_aload_n (pc := 11) d_X11_firstPlace_11 rfl ?_
    refine zv_iload_n (pc := 12) d_X11_firstPlace_12 rfl ?_
    refine zv_iload_n (pc := 13) d_X11_firstPlace_13 rfl ?_
    refine zv_iload (pc := 14) d_X11_firstPlace_14 rfl ?_
    refine zv_bipush (pc := 16) d_X11_firstPlace_16 zc_b_12 ?_
    refine zv_irem (pc := 18) d_X11_firstPlace_18 (by decide +kernel) ?_
    refine zv_iload (pc := 19) d_X11_firstPlace_19 rfl ?_
    refine zv_bipush (pc := 21) d_X11_firstPlace_21 zc_b_12 ?_
    refine zv_idiv (pc := 23) d_X11_firstPlace_23 (by decide +kernel) ?_
    refine zv_iload_n (pc := 24) d_X11_firstPlace_24 rfl ?_
    refine zv_iload (pc := 25) d_X11_firstPlace_25 rfl ?_
    obtain ⟨g2, hf⟩ := zw_gcE hf (by decide)
    obtain ⟨q3, hq3, hf⟩ := zw_bdE hf
    refine zx_callV (pc := 27) (As := [.int v1, .int v2, .int (s - s / 12 * 12), .int (s / 12), .int v3, .int v4]) (o := v0) (st := []) (d2 := 1) (M2 := M_X11_lies) (P2 := (fun r S => r = (some (.int q3)) ∧ S = (I, R, J))) d_X11_firstPlace_27 (zw_mG (List.mem_of_getElem? (i := 1649) (by decide +kernel)) rfl) ce_X11_lies (zw_RvK g2 rfl rfl) (Nat.le_of_ble_eq_true rfl) rfl (Nat.le_of_ble_eq_true rfl) (by decide) (c_X11_lies X v0 v1 v2 (s - s / 12 * 12) (s / 12) v3 v4 I R J _ hq3 ⟨rfl, rfl⟩) ?_
    rintro _ _ ⟨rfl, rfl⟩
    show zy_V X M_X11_firstPlace 2 P (27 + 3) [.ref v0, .int v1, .int v2, .int v3, .int v4, .int s] [.int q3] (I, R, J)
    rcases zw_ifE hf with ⟨c4, hf⟩ | ⟨c4, hf⟩
    · refine zv_if_eq (pc := 30) (tg := 36) d_X11_firstPlace_30 (by decide) (fun _ => ?_) (fun q => absurd c4 q)
      obtain ⟨x5, ex5, hf⟩ := zw_letE hf
      refine zx_iinc (pc := 36) (x2 := x5) (L2 := [.ref v0, .int v1, .int v2, .int v3, .int v4, .int x5]) d_X11_firstPlace_36 (by decide) rfl zc_i_1 ex5 rfl ?_
      refine zv_goto (pc := 39) (tg := 3) d_X11_firstPlace_39 (by decide) ?_
      cases hf
      exact zx_weak (zw_leS (zw_leS (zw_leS (zw_leS (zw_leS (zw_leS zw_leZ)))))) hk
    · refine zv_if_eq (pc := 30) (tg := 36) d_X11_firstPlace_30 (by decide) (fun q => absurd q c4) (fun _ => ?_)
      cases hf
      exact zx_weak (zw_leN (zw_leN (zw_leN (zw_leN (zw_leN (zw_leS zw_leZ)))))) hk
theorem s_X11_firstPlace_3_lp (X : zw_X) (P : Option Value → aS → Prop) (v0 : Nat) (v1 : Int32) (v2 : Int32) (v3 : Int32) (v4 : Int32) (I : zI) (R : zR) (J : zJ) (n : Nat) (s : Int32) (r : (Unit) ⊕ (Int32)) (h : zw_it (s_X11_firstPlace_3 v0 v1 v2 v3 v4 I R) n s = some r) (hq : (zw_se (fun r0 => zy_V X M_X11_firstPlace 2 P 42 [.null, .null, .null, .null, .null, .null] [] (I, R, J)) (fun t0 => zy_V X M_X11_firstPlace 2 P 33 [.null, .null, .null, .null, .null, .int t0] [] (I, R, J)) r)) : zy_V X M_X11_firstPlace 2 P 3 [.ref v0, .int v1, .int v2, .int v3, .int v4, .int s] [] (I, R, J) :=
  zw_itE (A := (fun t : Int32 => zy_V X M_X11_firstPlace 2 P 3 [.ref v0, .int v1, .int v2, .int v3, .int v4, .int t] [] (I, R, J))) (Q := (fun r : (Unit) ⊕ (Int32) => (zw_se (fun r0 => zy_V X M_X11_firstPlace 2 P 42 [.null, .null, .null, .null, .null, .null] [] (I, R, J)) (fun t0 => zy_V X M_X11_firstPlace 2 P 33 [.null, .null, .null, .null, .null, .int t0] [] (I, R, J)) r))) (fun s o h1 h2 => s_X11_firstPlace_3_ok X P v0 v1 v2 v3 v4 I R J s o h1 h2) n s r h hq
def f_X11_firstPlace (v0 : Nat) (v1 : Int32) (v2 : Int32) (v3 : Int32) (v4 : Int32) (I : zI) (R : zR) : Option (Int32) :=
  (zw_it (s_X11_firstPlace_3 v0 v1 v2 v3 v4 I R) 1000000 0).bind fun q6 => (match q6 with | .inl a7 => (some (-1)) | .inr a8 => (some a8))
theorem c_X11_firstPlace (X : zw_X) (v0 : Nat) (v1 : Int32) (v2 : Int32) (v3 : Int32) (v4 : Int32) (I : zI) (R : zR) (J : zJ) {P : Option Value → aS → Prop} (o : Int32) (hf : f_X11_firstPlace v0 v1 v2 v3 v4 I R = some o) (hk : P (some (.int o)) (I, R, J)) : zw_C X M_X11_firstPlace 2 0 0 199 [.ref v0, .int v1, .int v2, .int v3, .int v4] (I, R, J) P := by
  show zy_V X M_X11_firstPlace 2 P 0 [.ref v0, .int v1, .int v2, .int v3, .int v4, .null] [] (I, R, J)
  unfold f_X11_firstPlace at hf
  refine zv_iconst (pc := 0) d_X11_firstPlace_0 zc_i_0 ?_
  refine zx_istore (pc := 1) (x2 := 0) (L2 := [.ref v0, .int v1, .int v2, .int v3, .int v4, .int 0]) d_X11_firstPlace_1 (by decide) rfl rfl ?_
  obtain ⟨q6, hq6, hf⟩ := zw_bdE hf
  refine zx_weak (L' := [.ref v0, .int v1, .int v2, .int v3, .int v4, .int 0]) (zw_leS (zw_leS (zw_leS (zw_leS (zw_leS (zw_leS zw_leZ)))))) (s_X11_firstPlace_3_lp X P v0 v1 v2 v3 v4 I R J _ _ _ hq6 ?_)
  rcases q6 with a7 | a8
  ·
    show zy_V X M_X11_firstPlace 2 P 42 [.null, .null, .null, .null, .null, .null] [] (I, R, J)
    refine zv_iconst (pc := 42) d_X11_firstPlace_42 zc_i_m1 ?_
    cases hf
    exact zx_iret (pc := 43) d_X11_firstPlace_43 rfl hk
  ·
    show zy_V X M_X11_firstPlace 2 P 33 [.null, .null, .null, .null, .null, .int a8] [] (I, R, J)
    refine zv_iload (pc := 33) d_X11_firstPlace_33 rfl ?_
    cases hf
    exact zx_iret (pc := 35) d_X11_firstPlace_35 rfl hk
abbrev M_X11_fits : zw_M := (⟨"CutStonesModel", "fits", "(IIII)I"⟩, prog_13_method_69_code, 7, (Option.some Jvm.ClassFile.FieldType.int))
theorem d_X11_fits_0 : decode M_X11_fits.2.1 0 = .ok (.aload_n 0, 1) := by decide +kernel
theorem d_X11_fits_1 : decode M_X11_fits.2.1 1 = .ok (.iload_n 1, 1) := by decide +kernel
theorem d_X11_fits_2 : decode M_X11_fits.2.1 2 = .ok (.invokevirtual 380, 3) := by decide +kernel
theorem d_X11_fits_5 : decode M_X11_fits.2.1 5 = .ok (.istore 5, 2) := by decide +kernel
theorem d_X11_fits_7 : decode M_X11_fits.2.1 7 = .ok (.aload_n 0, 1) := by decide +kernel
theorem d_X11_fits_8 : decode M_X11_fits.2.1 8 = .ok (.iload_n 2, 1) := by decide +kernel
theorem d_X11_fits_9 : decode M_X11_fits.2.1 9 = .ok (.invokevirtual 377, 3) := by decide +kernel
theorem d_X11_fits_12 : decode M_X11_fits.2.1 12 = .ok (.istore 6, 2) := by decide +kernel
theorem d_X11_fits_14 : decode M_X11_fits.2.1 14 = .ok (.iload 5, 2) := by decide +kernel
theorem d_X11_fits_16 : decode M_X11_fits.2.1 16 = .ok (.iconst (-1), 1) := by decide +kernel
theorem d_X11_fits_17 : decode M_X11_fits.2.1 17 = .ok (.if_icmp .eq 30, 3) := by decide +kernel
theorem d_X11_fits_20 : decode M_X11_fits.2.1 20 = .ok (.iload 6, 2) := by decide +kernel
theorem d_X11_fits_22 : decode M_X11_fits.2.1 22 = .ok (.iconst (-1), 1) := by decide +kernel
theorem d_X11_fits_23 : decode M_X11_fits.2.1 23 = .ok (.if_icmp .eq 24, 3) := by decide +kernel
theorem d_X11_fits_26 : decode M_X11_fits.2.1 26 = .ok (.iload_n 3, 1) := by decide +kernel
theorem d_X11_fits_27 : decode M_X11_fits.2.1 27 = .ok (.iconst 0, 1) := by decide +kernel
theorem d_X11_fits_28 : decode M_X11_fits.2.1 28 = .ok (.bipush 11, 2) := by decide +kernel
theorem d_X11_fits_30 : decode M_X11_fits.2.1 30 = .ok (.invokestatic 373, 3) := by decide +kernel
theorem d_X11_fits_33 : decode M_X11_fits.2.1 33 = .ok (.ifCond .eq 14, 3) := by decide +kernel
theorem d_X11_fits_36 : decode M_X11_fits.2.1 36 = .ok (.iload 4, 2) := by decide +kernel
theorem d_X11_fits_38 : decode M_X11_fits.2.1 38 = .ok (.iconst 0, 1) := by decide +kernel
theorem d_X11_fits_39 : decode M_X11_fits.2.1 39 = .ok (.bipush 11, 2) := by decide +kernel
theorem d_X11_fits_41 : decode M_X11_fits.2.1 41 = .ok (.invokestatic 373, 3) := by decide +kernel
theorem d_X11_fits_44 : decode M_X11_fits.2.1 44 = .ok (.ifCond .ne 7, 3) := by decide +kernel
theorem d_X11_fits_47 : decode M_X11_fits.2.1 47 = .ok (.iconst (-1), 1) := by decide +kernel
theorem d_X11_fits_48 : decode M_X11_fits.2.1 48 = .ok (.goto 25, 3) := by decide +kernel
theorem d_X11_fits_51 : decode M_X11_fits.2.1 51 = .ok (.aload_n 0, 1) := by decide +kernel
theorem d_X11_fits_52 : decode M_X11_fits.2.1 52 = .ok (.iload 5, 2) := by decide +kernel
theorem d_X11_fits_54 : decode M_X11_fits.2.1 54 = .ok (.iload 6, 2) := by decide +kernel
theorem d_X11_fits_56 : decode M_X11_fits.2.1 56 = .ok (.iload_n 3, 1) := by decide +kernel
theorem d_X11_fits_57 : decode M_X11_fits.2.1 57 = .ok (.iload 4, 2) := by decide +kernel
theorem d_X11_fits_59 : decode M_X11_fits.2.1 59 = .ok (.iconst 0, 1) := by decide +kernel
theorem d_X11_fits_60 : decode M_X11_fits.2.1 60 = .ok (.bipush 12, 2) := by decide +kernel
theorem d_X11_fits_62 : decode M_X11_fits.2.1 62 = .ok (.invokevirtual 430, 3) := by decide +kernel
theorem d_X11_fits_65 : decode M_X11_fits.2.1 65 = .ok (.ifCond .eq 7, 3) := by decide +kernel
theorem d_X11_fits_68 : decode M_X11_fits.2.1 68 = .ok (.iconst 1, 1) := by decide +kernel
theorem d_X11_fits_69 : decode M_X11_fits.2.1 69 = .ok (.goto 4, 3) := by decide +kernel
theorem d_X11_fits_72 : decode M_X11_fits.2.1 72 = .ok (.iconst 0, 1) := by decide +kernel
theorem d_X11_fits_73 : decode M_X11_fits.2.1 73 = .ok (.ireturn, 1) := by decide +kernel
theorem ce_X11_fits : zw_CeV M_X11_fits 4 := ⟨⟨⟨by decide +kernel, by decide +kernel, by decide +kernel⟩, (zw_mG (List.mem_of_getElem? (i := 1648) (by decide +kernel)) rfl), (zw_mG (List.mem_of_getElem? (i := 108) (by decide +kernel)) rfl), by decide, by decide +kernel⟩, (zw_mG (List.mem_of_getElem? (i := 1646) (by decide +kernel)) rfl), (zw_mG (List.mem_of_getElem? (i := 1647) (by decide +kernel)) rfl)⟩
def j_X11_fits_47  (I : zI) (R : zR) : Option (Int32) :=
  some (-1)
theorem j_X11_fits_47_ok (X : zw_X) (P : Option Value → aS → Prop)  (I : zI) (R : zR) (J : zJ) (o : Int32) (hf : j_X11_fits_47 I R = some o) (hk : P (some (.int o)) (I, R, J)) : zy_V X M_X11_fits 2 P 47 [.null, .null, .null, .null, .null, .null, .null] [] (I, R, J) := by
  unfold j_X11_fits_47 at hf
  refine zv_iconst (pc := 47) d_X11_fits_47 zc_i_m1 ?_
  refine zv_goto (pc := 48) (tg := 73) d_X11_fits_48 (by decide) ?_
  cases hf
  exact zx_iret (pc := 73) d_X11_fits_73 rfl hk
def f_X11_fits (v0 : Nat) (v1 : Int32) (v2 : Int32) (v3 : Int32) (v4 : Int32) (I : zI) (R : zR) : Option (Int32) :=
  zw_g (zw_gc v0 11) ((f_X11_cutRow v0 v1 I R).bind fun q2 => ((f_X11_roughRow v0 v2 I R).bind fun q3 => (if q2 = (-1) then j_X11_fits_47 I R else if q3 = (-1) then j_X11_fits_47 I R else (f_X11_in v3 0 11).bind fun q6 => (if q6 = 0 then j_X11_fits_47 I R else (f_X11_in v4 0 11).bind fun q8 => (if ¬ q8 = 0 then (f_X11_lies v0 q2 q3 v3 v4 0 12 I R).bind fun q10 => (if q10 = 0 then some 0 else some 1) else j_X11_fits_47 I R)))))
theorem c_X11_fits (X : zw_X) (v0 : Nat) (v1 : Int32) (v2 : Int32) (v3 : Int32) (v4 : Int32) (I : zI) (R : zR) (J : zJ) {P : Option Value → aS → Prop} (o : Int32) (hf : f_X11_fits v0 v1 v2 v3 v4 I R = some o) (hk : P (some (.int o)) (I, R, J)) : zw_C X M_X11_fits 2 0 0 199 [.ref v0, .int v1, .int v2, .int v3, .int v4] (I, R, J) P := by
  show zy_V X M_X11_fits 2 P 0 [.ref v0, .int v1, .int v2, .int v3, .int v4, .null, .null] [] (I, R, J)
  unfold f_X11_fits at hf
  refine zv_aload_n (pc := 0) d_X11_fits_0 rfl ?_
  refine zv_iload_n (pc := 1) d_X11_fits_1 rfl ?_
  obtain ⟨g1, hf⟩ := zw_gcE hf (by decide)
  obtain ⟨q2, hq2, hf⟩ := zw_bdE hf
  refine zx_callV (pc := 2) (As := [.int v1]) (o := v0) (st := []) (d2 := 1) (M2 := M_X11_cutRow) (P2 := (fun r S => r = (some (.int q2)) ∧ S = (I, R, J))) d_X11_fits_2 (zw_mG (List.mem_of_getElem? (i := 1525) (by decide +kernel)) rfl) ce_X11_cutRow (zw_RvK g1 rfl rfl) (Nat.le_of_ble_eq_true rfl) rfl (Nat.le_of_ble_eq_true rfl) (by decide) (c_X11_cutRow X v0 v1 I R J _ hq2 ⟨rfl, rfl⟩) ?_
  rintro _ _ ⟨rfl, rfl⟩
  show zy_V X M_X11_fits 2 P (2 + 3) [.ref v0, .int v1, .int v2, .int v3, .int v4, .null, .null] [.int q2] (I, R, J)
  refine zx_istore (pc := 5) (x2 := q2) (L2 := [.ref v0, .int v1, .int v2, .int v3, .int v4, .int q2, .null]) d_X11_fits_5 (by decide) rfl rfl ?_
  refine zv_aload_n (pc := 7) d_X11_fits_7 rfl ?_
  refine zv_iload_n (pc := 8) d_X11_fits_8 rfl ?_
  obtain ⟨q3, hq3, hf⟩ := zw_bdE hf
  refine zx_callV (pc := 9) (As := [.int v2]) (o := v0) (st := []) (d2 := 1) (M2 := M_X11_roughRow) (P2 := (fun r S => r = (some (.int q3)) ∧ S = (I, R, J))) d_X11_fits_9 (zw_mG (List.mem_of_getElem? (i := 1518) (by decide +kernel)) rfl) ce_X11_roughRow (zw_RvK g1 rfl rfl) (Nat.le_of_ble_eq_true rfl) rfl (Nat.le_of_ble_eq_true rfl) (by decide) (c_X11_roughRow X v0 v2 I R J _ hq3 ⟨rfl, rfl⟩) ?_
  rintro _ _ ⟨rfl, rfl⟩
  show zy_V X M_X11_fits 2 P (9 + 3) [.ref v0, .int v1, .int v2, .int v3, .int v4, .int q2, .null] [.int q3] (I, R, J)
  refine zx_istore (pc := 12) (x2 := q3) (L2 := [.ref v0, .int v1, .int v2, .int v3, .int v4, .int q2, .int q3]) d_X11_fits_12 (by decide) rfl rfl ?_
  refine zv_iload (pc := 14) d_X11_fits_14 rfl ?_
  refine zv_iconst (pc := 16) d_X11_fits_16 zc_i_m1 ?_
  rcases zw_ifE hf with ⟨c4, hf⟩ | ⟨c4, hf⟩
  · refine zv_icmp_eq (pc := 17) (tg := 47) d_X11_fits_17 (by decide) (fun _ => ?_) (fun q => absurd c4 q)
    exact zx_weak (zw_leN (zw_leN (zw_leN (zw_leN (zw_leN (zw_leN (zw_leN zw_leZ))))))) (j_X11_fits_47_ok X P I R J _ hf hk)
  · refine zv_icmp_eq (pc := 17) (tg := 47) d_X11_fits_17 (by decide) (fun q => absurd q c4) (fun _ => ?_)
    refine zv_iload (pc := 20) d_X11_fits_20 rfl ?_
    refine zv_iconst (pc := 22) d_X11_fits_22 zc_i_m1 ?_
    rcases zw_ifE hf with ⟨c5, hf⟩ | ⟨c5, hf⟩
    · refine zv_icmp_eq (pc := 23) (tg := 47) d_X11_fits_23 (by decide) (fun _ => ?_) (fun q => absurd c5 q)
      exact zx_weak (zw_leN (zw_leN (zw_leN (zw_leN (zw_leN (zw_leN (zw_leN zw_leZ))))))) (j_X11_fits_47_ok X P I R J _ hf hk)
    · refine zv_icmp_eq (pc := 23) (tg := 47) d_X11_fits_23 (by decide) (fun q => absurd q c5) (fun _ => ?_)
      refine zv_iload_n (pc := 26) d_X11_fits_26 rfl ?_
      refine zv_iconst (pc := 27) d_X11_fits_27 zc_i_0 ?_
      refine zv_bipush (pc := 28) d_X11_fits_28 zc_b_11 ?_
      obtain ⟨q6, hq6, hf⟩ := zw_bdE hf
      refine zx_callS (pc := 30) (As := [.int v3, .int 0, .int 11]) (st := []) (d2 := 0) (M2 := M_X11_in) (P2 := (fun r S => r = (some (.int q6)) ∧ S = (I, R, J))) d_X11_fits_30 (zw_mG (List.mem_of_getElem? (i := 1522) (by decide +kernel)) rfl) ce_X11_in (Nat.le_of_ble_eq_true rfl) rfl (Nat.le_of_ble_eq_true rfl) (by decide) (c_X11_in X v3 0 11 I R J _ hq6 ⟨rfl, rfl⟩) ?_
      rintro _ _ ⟨rfl, rfl⟩
      show zy_V X M_X11_fits 2 P (30 + 3) [.ref v0, .int v1, .int v2, .int v3, .int v4, .int q2, .int q3] [.int q6] (I, R, J)
      rcases zw_ifE hf with ⟨c7, hf⟩ | ⟨c7, hf⟩
      · refine zv_if_eq (pc := 33) (tg := 47) d_X11_fits_33 (by decide) (fun _ => ?_) (fun q => absurd c7 q)
        exact zx_weak (zw_leN (zw_leN (zw_leN (zw_leN (zw_leN (zw_leN (zw_leN zw_leZ))))))) (j_X11_fits_47_ok X P I R J _ hf hk)
      · refine zv_if_eq (pc := 33) (tg := 47) d_X11_fits_33 (by decide) (fun q => absurd q c7) (fun _ => ?_)
        refine zv_iload (pc := 36) d_X11_fits_36 rfl ?_
        refine zv_iconst (pc := 38) d_X11_fits_38 zc_i_0 ?_
        refine zv_bipush (pc := 39) d_X11_fits_39 zc_b_11 ?_
        obtain ⟨q8, hq8, hf⟩ := zw_bdE hf
        refine zx_callS (pc := 41) (As := [.int v4, .int 0, .int 11]) (st := []) (d2 := 0) (M2 := M_X11_in) (P2 := (fun r S => r = (some (.int q8)) ∧ S = (I, R, J))) d_X11_fits_41 (zw_mG (List.mem_of_getElem? (i := 1522) (by decide +kernel)) rfl) ce_X11_in (Nat.le_of_ble_eq_true rfl) rfl (Nat.le_of_ble_eq_true rfl) (by decide) (c_X11_in X v4 0 11 I R J _ hq8 ⟨rfl, rfl⟩) ?_
        rintro _ _ ⟨rfl, rfl⟩
        show zy_V X M_X11_fits 2 P (41 + 3) [.ref v0, .int v1, .int v2, .int v3, .int v4, .int q2, .int q3] [.int q8] (I, R, J)
        rcases zw_ifE hf with ⟨c9, hf⟩ | ⟨c9, hf⟩
        · refine zv_if_ne (pc := 44) (tg := 51) d_X11_fits_44 (by decide) (fun _ => ?_) (fun q => absurd q c9)
          refine zv_aload_n (pc := 51) d_X11_fits_51 rfl ?_
          refine zv_iload (pc := 52) d_X11_fits_52 rfl ?_
          refine zv_iload (pc := 54) d_X11_fits_54 rfl ?_
          refine zv_iload_n (pc := 56) d_X11_fits_56 rfl ?_
          refine zv_iload (pc := 57) d_X11_fits_57 rfl ?_
          refine zv_iconst (pc := 59) d_X11_fits_59 zc_i_0 ?_
          refine zv_bipush (pc := 60) d_X11_fits_60 zc_b_12 ?_
          obtain ⟨q10, hq10, hf⟩ := zw_bdE hf
          refine zx_callV (pc := 62) (As := [.int q2, .int q3, .int v3, .int v4, .int 0, .int 12]) (o := v0) (st := []) (d2 := 1) (M2 := M_X11_lies) (P2 := (fun r S => r = (some (.int q10)) ∧ S = (I, R, J))) d_X11_fits_62 (zw_mG (List.mem_of_getElem? (i := 1649) (by decide +kernel)) rfl) ce_X11_lies (zw_RvK g1 rfl rfl) (Nat.le_of_ble_eq_true rfl) rfl (Nat.le_of_ble_eq_true rfl) (by decide) (c_X11_lies X v0 q2 q3 v3 v4 0 12 I R J _ hq10 ⟨rfl, rfl⟩) ?_
          rintro _ _ ⟨rfl, rfl⟩
          show zy_V X M_X11_fits 2 P (62 + 3) [.ref v0, .int v1, .int v2, .int v3, .int v4, .int q2, .int q3] [.int q10] (I, R, J)
          rcases zw_ifE hf with ⟨c11, hf⟩ | ⟨c11, hf⟩
          · refine zv_if_eq (pc := 65) (tg := 72) d_X11_fits_65 (by decide) (fun _ => ?_) (fun q => absurd c11 q)
            refine zv_iconst (pc := 72) d_X11_fits_72 zc_i_0 ?_
            cases hf
            exact zx_iret (pc := 73) d_X11_fits_73 rfl hk
          · refine zv_if_eq (pc := 65) (tg := 72) d_X11_fits_65 (by decide) (fun q => absurd q c11) (fun _ => ?_)
            refine zv_iconst (pc := 68) d_X11_fits_68 zc_i_1 ?_
            refine zv_goto (pc := 69) (tg := 73) d_X11_fits_69 (by decide) ?_
            cases hf
            exact zx_iret (pc := 73) d_X11_fits_73 rfl hk
        · refine zv_if_ne (pc := 44) (tg := 51) d_X11_fits_44 (by decide) (fun q => absurd q c9) (fun _ => ?_)
          exact zx_weak (zw_leN (zw_leN (zw_leN (zw_leN (zw_leN (zw_leN (zw_leN zw_leZ))))))) (j_X11_fits_47_ok X P I R J _ hf hk)
abbrev M_X11_follows : zw_M := (⟨"CutStonesModel", "follows", "(IIIIIII)V"⟩, prog_13_method_46_code, 17, (Option.none : Option Jvm.ClassFile.FieldType))
theorem d_X11_follows_0 : decode M_X11_follows.2.1 0 = .ok (.iload 4, 2) := by decide +kernel
theorem d_X11_follows_2 : decode M_X11_follows.2.1 2 = .ok (.istore 8, 2) := by decide +kernel
theorem d_X11_follows_4 : decode M_X11_follows.2.1 4 = .ok (.iload 5, 2) := by decide +kernel
theorem d_X11_follows_6 : decode M_X11_follows.2.1 6 = .ok (.istore 9, 2) := by decide +kernel
theorem d_X11_follows_8 : decode M_X11_follows.2.1 8 = .ok (.iload 6, 2) := by decide +kernel
theorem d_X11_follows_10 : decode M_X11_follows.2.1 10 = .ok (.istore 10, 2) := by decide +kernel
theorem d_X11_follows_12 : decode M_X11_follows.2.1 12 = .ok (.iload 7, 2) := by decide +kernel
theorem d_X11_follows_14 : decode M_X11_follows.2.1 14 = .ok (.istore 11, 2) := by decide +kernel
theorem d_X11_follows_16 : decode M_X11_follows.2.1 16 = .ok (.iconst 0, 1) := by decide +kernel
theorem d_X11_follows_17 : decode M_X11_follows.2.1 17 = .ok (.istore 12, 2) := by decide +kernel
theorem d_X11_follows_19 : decode M_X11_follows.2.1 19 = .ok (.iload 11, 2) := by decide +kernel
theorem d_X11_follows_21 : decode M_X11_follows.2.1 21 = .ok (.ifCond .le 253, 3) := by decide +kernel
theorem d_X11_follows_24 : decode M_X11_follows.2.1 24 = .ok (.iload 12, 2) := by decide +kernel
theorem d_X11_follows_26 : decode M_X11_follows.2.1 26 = .ok (.sipush 300, 3) := by decide +kernel
theorem d_X11_follows_29 : decode M_X11_follows.2.1 29 = .ok (.if_icmp .ge 245, 3) := by decide +kernel
theorem d_X11_follows_32 : decode M_X11_follows.2.1 32 = .ok (.aload_n 0, 1) := by decide +kernel
theorem d_X11_follows_33 : decode M_X11_follows.2.1 33 = .ok (.iload_n 1, 1) := by decide +kernel
theorem d_X11_follows_34 : decode M_X11_follows.2.1 34 = .ok (.iload 8, 2) := by decide +kernel
theorem d_X11_follows_36 : decode M_X11_follows.2.1 36 = .ok (.iload 9, 2) := by decide +kernel
theorem d_X11_follows_38 : decode M_X11_follows.2.1 38 = .ok (.invokevirtual 352, 3) := by decide +kernel
theorem d_X11_follows_41 : decode M_X11_follows.2.1 41 = .ok (.istore 13, 2) := by decide +kernel
theorem d_X11_follows_43 : decode M_X11_follows.2.1 43 = .ok (.aload_n 0, 1) := by decide +kernel
theorem d_X11_follows_44 : decode M_X11_follows.2.1 44 = .ok (.getfield 131, 3) := by decide +kernel
theorem d_X11_follows_47 : decode M_X11_follows.2.1 47 = .ok (.iload 12, 2) := by decide +kernel
theorem d_X11_follows_49 : decode M_X11_follows.2.1 49 = .ok (.bipush 12, 2) := by decide +kernel
theorem d_X11_follows_51 : decode M_X11_follows.2.1 51 = .ok (.iload 9, 2) := by decide +kernel
theorem d_X11_follows_53 : decode M_X11_follows.2.1 53 = .ok (.imul, 1) := by decide +kernel
theorem d_X11_follows_54 : decode M_X11_follows.2.1 54 = .ok (.iload 8, 2) := by decide +kernel
theorem d_X11_follows_56 : decode M_X11_follows.2.1 56 = .ok (.iadd, 1) := by decide +kernel
theorem d_X11_follows_57 : decode M_X11_follows.2.1 57 = .ok (.iastore, 1) := by decide +kernel
theorem d_X11_follows_58 : decode M_X11_follows.2.1 58 = .ok (.iinc 12 1, 3) := by decide +kernel
theorem d_X11_follows_61 : decode M_X11_follows.2.1 61 = .ok (.iload 13, 2) := by decide +kernel
theorem d_X11_follows_63 : decode M_X11_follows.2.1 63 = .ok (.bipush 6, 2) := by decide +kernel
theorem d_X11_follows_65 : decode M_X11_follows.2.1 65 = .ok (.if_icmp .ne 46, 3) := by decide +kernel
theorem d_X11_follows_68 : decode M_X11_follows.2.1 68 = .ok (.iload 11, 2) := by decide +kernel
theorem d_X11_follows_70 : decode M_X11_follows.2.1 70 = .ok (.aload_n 0, 1) := by decide +kernel
theorem d_X11_follows_71 : decode M_X11_follows.2.1 71 = .ok (.getfield 55, 3) := by decide +kernel
theorem d_X11_follows_74 : decode M_X11_follows.2.1 74 = .ok (.iload_n 2, 1) := by decide +kernel
theorem d_X11_follows_75 : decode M_X11_follows.2.1 75 = .ok (.iaload, 1) := by decide +kernel
theorem d_X11_follows_76 : decode M_X11_follows.2.1 76 = .ok (.imul, 1) := by decide +kernel
theorem d_X11_follows_77 : decode M_X11_follows.2.1 77 = .ok (.sipush 1000, 3) := by decide +kernel
theorem d_X11_follows_80 : decode M_X11_follows.2.1 80 = .ok (.idiv, 1) := by decide +kernel
theorem d_X11_follows_81 : decode M_X11_follows.2.1 81 = .ok (.istore 14, 2) := by decide +kernel
theorem d_X11_follows_83 : decode M_X11_follows.2.1 83 = .ok (.aload_n 0, 1) := by decide +kernel
theorem d_X11_follows_84 : decode M_X11_follows.2.1 84 = .ok (.dup, 1) := by decide +kernel
theorem d_X11_follows_85 : decode M_X11_follows.2.1 85 = .ok (.getfield 331, 3) := by decide +kernel
theorem d_X11_follows_88 : decode M_X11_follows.2.1 88 = .ok (.iload 14, 2) := by decide +kernel
theorem d_X11_follows_90 : decode M_X11_follows.2.1 90 = .ok (.iadd, 1) := by decide +kernel
theorem d_X11_follows_91 : decode M_X11_follows.2.1 91 = .ok (.putfield 331, 3) := by decide +kernel
theorem d_X11_follows_94 : decode M_X11_follows.2.1 94 = .ok (.iload 11, 2) := by decide +kernel
theorem d_X11_follows_96 : decode M_X11_follows.2.1 96 = .ok (.iload 14, 2) := by decide +kernel
theorem d_X11_follows_98 : decode M_X11_follows.2.1 98 = .ok (.isub, 1) := by decide +kernel
theorem d_X11_follows_99 : decode M_X11_follows.2.1 99 = .ok (.istore 11, 2) := by decide +kernel
theorem d_X11_follows_101 : decode M_X11_follows.2.1 101 = .ok (.aload_n 0, 1) := by decide +kernel
theorem d_X11_follows_102 : decode M_X11_follows.2.1 102 = .ok (.dup, 1) := by decide +kernel
theorem d_X11_follows_103 : decode M_X11_follows.2.1 103 = .ok (.getfield 340, 3) := by decide +kernel
theorem d_X11_follows_106 : decode M_X11_follows.2.1 106 = .ok (.iconst 1, 1) := by decide +kernel
theorem d_X11_follows_107 : decode M_X11_follows.2.1 107 = .ok (.iadd, 1) := by decide +kernel
theorem d_X11_follows_108 : decode M_X11_follows.2.1 108 = .ok (.putfield 340, 3) := by decide +kernel
theorem d_X11_follows_111 : decode M_X11_follows.2.1 111 = .ok (.iload 13, 2) := by decide +kernel
theorem d_X11_follows_113 : decode M_X11_follows.2.1 113 = .ok (.iconst 5, 1) := by decide +kernel
theorem d_X11_follows_114 : decode M_X11_follows.2.1 114 = .ok (.if_icmp .ge 61, 3) := by decide +kernel
theorem d_X11_follows_117 : decode M_X11_follows.2.1 117 = .ok (.iload 11, 2) := by decide +kernel
theorem d_X11_follows_119 : decode M_X11_follows.2.1 119 = .ok (.aload_n 0, 1) := by decide +kernel
theorem d_X11_follows_120 : decode M_X11_follows.2.1 120 = .ok (.getfield 52, 3) := by decide +kernel
theorem d_X11_follows_123 : decode M_X11_follows.2.1 123 = .ok (.iconst 4, 1) := by decide +kernel
theorem d_X11_follows_124 : decode M_X11_follows.2.1 124 = .ok (.iload_n 2, 1) := by decide +kernel
theorem d_X11_follows_125 : decode M_X11_follows.2.1 125 = .ok (.imul, 1) := by decide +kernel
theorem d_X11_follows_126 : decode M_X11_follows.2.1 126 = .ok (.iload_n 3, 1) := by decide +kernel
theorem d_X11_follows_127 : decode M_X11_follows.2.1 127 = .ok (.iadd, 1) := by decide +kernel
theorem d_X11_follows_128 : decode M_X11_follows.2.1 128 = .ok (.iaload, 1) := by decide +kernel
theorem d_X11_follows_129 : decode M_X11_follows.2.1 129 = .ok (.imul, 1) := by decide +kernel
theorem d_X11_follows_130 : decode M_X11_follows.2.1 130 = .ok (.sipush 1000, 3) := by decide +kernel
theorem d_X11_follows_133 : decode M_X11_follows.2.1 133 = .ok (.idiv, 1) := by decide +kernel
theorem d_X11_follows_134 : decode M_X11_follows.2.1 134 = .ok (.istore 14, 2) := by decide +kernel
theorem d_X11_follows_136 : decode M_X11_follows.2.1 136 = .ok (.aload_n 0, 1) := by decide +kernel
theorem d_X11_follows_137 : decode M_X11_follows.2.1 137 = .ok (.iload 10, 2) := by decide +kernel
theorem d_X11_follows_139 : decode M_X11_follows.2.1 139 = .ok (.iload 8, 2) := by decide +kernel
theorem d_X11_follows_141 : decode M_X11_follows.2.1 141 = .ok (.iload 14, 2) := by decide +kernel
theorem d_X11_follows_143 : decode M_X11_follows.2.1 143 = .ok (.invokevirtual 369, 3) := by decide +kernel
theorem d_X11_follows_146 : decode M_X11_follows.2.1 146 = .ok (.iload 11, 2) := by decide +kernel
theorem d_X11_follows_148 : decode M_X11_follows.2.1 148 = .ok (.iload 14, 2) := by decide +kernel
theorem d_X11_follows_150 : decode M_X11_follows.2.1 150 = .ok (.isub, 1) := by decide +kernel
theorem d_X11_follows_151 : decode M_X11_follows.2.1 151 = .ok (.istore 11, 2) := by decide +kernel
theorem d_X11_follows_153 : decode M_X11_follows.2.1 153 = .ok (.iload 10, 2) := by decide +kernel
theorem d_X11_follows_155 : decode M_X11_follows.2.1 155 = .ok (.iconst 2, 1) := by decide +kernel
theorem d_X11_follows_156 : decode M_X11_follows.2.1 156 = .ok (.irem, 1) := by decide +kernel
theorem d_X11_follows_157 : decode M_X11_follows.2.1 157 = .ok (.ifCond .ne 11, 3) := by decide +kernel
theorem d_X11_follows_160 : decode M_X11_follows.2.1 160 = .ok (.iload 13, 2) := by decide +kernel
theorem d_X11_follows_162 : decode M_X11_follows.2.1 162 = .ok (.invokestatic 349, 3) := by decide +kernel
theorem d_X11_follows_165 : decode M_X11_follows.2.1 165 = .ok (.goto 8, 3) := by decide +kernel
theorem d_X11_follows_168 : decode M_X11_follows.2.1 168 = .ok (.iload 13, 2) := by decide +kernel
theorem d_X11_follows_170 : decode M_X11_follows.2.1 170 = .ok (.invokestatic 346, 3) := by decide +kernel
theorem d_X11_follows_173 : decode M_X11_follows.2.1 173 = .ok (.istore 10, 2) := by decide +kernel
theorem d_X11_follows_175 : decode M_X11_follows.2.1 175 = .ok (.iload 8, 2) := by decide +kernel
theorem d_X11_follows_177 : decode M_X11_follows.2.1 177 = .ok (.iload 10, 2) := by decide +kernel
theorem d_X11_follows_179 : decode M_X11_follows.2.1 179 = .ok (.invokestatic 355, 3) := by decide +kernel
theorem d_X11_follows_182 : decode M_X11_follows.2.1 182 = .ok (.iadd, 1) := by decide +kernel
theorem d_X11_follows_183 : decode M_X11_follows.2.1 183 = .ok (.istore 14, 2) := by decide +kernel
theorem d_X11_follows_185 : decode M_X11_follows.2.1 185 = .ok (.iload 9, 2) := by decide +kernel
theorem d_X11_follows_187 : decode M_X11_follows.2.1 187 = .ok (.iload 10, 2) := by decide +kernel
theorem d_X11_follows_189 : decode M_X11_follows.2.1 189 = .ok (.invokestatic 358, 3) := by decide +kernel
theorem d_X11_follows_192 : decode M_X11_follows.2.1 192 = .ok (.iadd, 1) := by decide +kernel
theorem d_X11_follows_193 : decode M_X11_follows.2.1 193 = .ok (.istore 15, 2) := by decide +kernel
theorem d_X11_follows_195 : decode M_X11_follows.2.1 195 = .ok (.aload_n 0, 1) := by decide +kernel
theorem d_X11_follows_196 : decode M_X11_follows.2.1 196 = .ok (.iload_n 1, 1) := by decide +kernel
theorem d_X11_follows_197 : decode M_X11_follows.2.1 197 = .ok (.iload 14, 2) := by decide +kernel
theorem d_X11_follows_199 : decode M_X11_follows.2.1 199 = .ok (.iload 15, 2) := by decide +kernel
theorem d_X11_follows_201 : decode M_X11_follows.2.1 201 = .ok (.invokevirtual 352, 3) := by decide +kernel
theorem d_X11_follows_204 : decode M_X11_follows.2.1 204 = .ok (.iload 10, 2) := by decide +kernel
theorem d_X11_follows_206 : decode M_X11_follows.2.1 206 = .ok (.iconst 2, 1) := by decide +kernel
theorem d_X11_follows_207 : decode M_X11_follows.2.1 207 = .ok (.iadd, 1) := by decide +kernel
theorem d_X11_follows_208 : decode M_X11_follows.2.1 208 = .ok (.iconst 4, 1) := by decide +kernel
theorem d_X11_follows_209 : decode M_X11_follows.2.1 209 = .ok (.irem, 1) := by decide +kernel
theorem d_X11_follows_210 : decode M_X11_follows.2.1 210 = .ok (.invokestatic 361, 3) := by decide +kernel
theorem d_X11_follows_213 : decode M_X11_follows.2.1 213 = .ok (.ifCond .eq 14, 3) := by decide +kernel
theorem d_X11_follows_216 : decode M_X11_follows.2.1 216 = .ok (.iload 14, 2) := by decide +kernel
theorem d_X11_follows_218 : decode M_X11_follows.2.1 218 = .ok (.istore 8, 2) := by decide +kernel
theorem d_X11_follows_220 : decode M_X11_follows.2.1 220 = .ok (.iload 15, 2) := by decide +kernel
theorem d_X11_follows_222 : decode M_X11_follows.2.1 222 = .ok (.istore 9, 2) := by decide +kernel
theorem d_X11_follows_224 : decode M_X11_follows.2.1 224 = .ok (.goto (-205), 3) := by decide +kernel
theorem d_X11_follows_227 : decode M_X11_follows.2.1 227 = .ok (.iload 11, 2) := by decide +kernel
theorem d_X11_follows_229 : decode M_X11_follows.2.1 229 = .ok (.aload_n 0, 1) := by decide +kernel
theorem d_X11_follows_230 : decode M_X11_follows.2.1 230 = .ok (.getfield 49, 3) := by decide +kernel
theorem d_X11_follows_233 : decode M_X11_follows.2.1 233 = .ok (.iconst 4, 1) := by decide +kernel
theorem d_X11_follows_234 : decode M_X11_follows.2.1 234 = .ok (.iload_n 2, 1) := by decide +kernel
theorem d_X11_follows_235 : decode M_X11_follows.2.1 235 = .ok (.imul, 1) := by decide +kernel
theorem d_X11_follows_236 : decode M_X11_follows.2.1 236 = .ok (.iload_n 3, 1) := by decide +kernel
theorem d_X11_follows_237 : decode M_X11_follows.2.1 237 = .ok (.iadd, 1) := by decide +kernel
theorem d_X11_follows_238 : decode M_X11_follows.2.1 238 = .ok (.iaload, 1) := by decide +kernel
theorem d_X11_follows_239 : decode M_X11_follows.2.1 239 = .ok (.imul, 1) := by decide +kernel
theorem d_X11_follows_240 : decode M_X11_follows.2.1 240 = .ok (.sipush 1000, 3) := by decide +kernel
theorem d_X11_follows_243 : decode M_X11_follows.2.1 243 = .ok (.idiv, 1) := by decide +kernel
theorem d_X11_follows_244 : decode M_X11_follows.2.1 244 = .ok (.istore 16, 2) := by decide +kernel
theorem d_X11_follows_246 : decode M_X11_follows.2.1 246 = .ok (.aload_n 0, 1) := by decide +kernel
theorem d_X11_follows_247 : decode M_X11_follows.2.1 247 = .ok (.iload 10, 2) := by decide +kernel
theorem d_X11_follows_249 : decode M_X11_follows.2.1 249 = .ok (.iload 8, 2) := by decide +kernel
theorem d_X11_follows_251 : decode M_X11_follows.2.1 251 = .ok (.iload 16, 2) := by decide +kernel
theorem d_X11_follows_253 : decode M_X11_follows.2.1 253 = .ok (.invokevirtual 369, 3) := by decide +kernel
theorem d_X11_follows_256 : decode M_X11_follows.2.1 256 = .ok (.iload 11, 2) := by decide +kernel
theorem d_X11_follows_258 : decode M_X11_follows.2.1 258 = .ok (.iload 16, 2) := by decide +kernel
theorem d_X11_follows_260 : decode M_X11_follows.2.1 260 = .ok (.isub, 1) := by decide +kernel
theorem d_X11_follows_261 : decode M_X11_follows.2.1 261 = .ok (.istore 11, 2) := by decide +kernel
theorem d_X11_follows_263 : decode M_X11_follows.2.1 263 = .ok (.iload 10, 2) := by decide +kernel
theorem d_X11_follows_265 : decode M_X11_follows.2.1 265 = .ok (.iconst 2, 1) := by decide +kernel
theorem d_X11_follows_266 : decode M_X11_follows.2.1 266 = .ok (.iadd, 1) := by decide +kernel
theorem d_X11_follows_267 : decode M_X11_follows.2.1 267 = .ok (.iconst 4, 1) := by decide +kernel
theorem d_X11_follows_268 : decode M_X11_follows.2.1 268 = .ok (.irem, 1) := by decide +kernel
theorem d_X11_follows_269 : decode M_X11_follows.2.1 269 = .ok (.istore 10, 2) := by decide +kernel
theorem d_X11_follows_271 : decode M_X11_follows.2.1 271 = .ok (.goto (-252), 3) := by decide +kernel
theorem d_X11_follows_274 : decode M_X11_follows.2.1 274 = .ok (.aload_n 0, 1) := by decide +kernel
theorem d_X11_follows_275 : decode M_X11_follows.2.1 275 = .ok (.dup, 1) := by decide +kernel
theorem d_X11_follows_276 : decode M_X11_follows.2.1 276 = .ok (.getfield 334, 3) := by decide +kernel
theorem d_X11_follows_279 : decode M_X11_follows.2.1 279 = .ok (.iload 11, 2) := by decide +kernel
theorem d_X11_follows_281 : decode M_X11_follows.2.1 281 = .ok (.iadd, 1) := by decide +kernel
theorem d_X11_follows_282 : decode M_X11_follows.2.1 282 = .ok (.putfield 334, 3) := by decide +kernel
theorem d_X11_follows_285 : decode M_X11_follows.2.1 285 = .ok (.aload_n 0, 1) := by decide +kernel
theorem d_X11_follows_286 : decode M_X11_follows.2.1 286 = .ok (.dup, 1) := by decide +kernel
theorem d_X11_follows_287 : decode M_X11_follows.2.1 287 = .ok (.getfield 337, 3) := by decide +kernel
theorem d_X11_follows_290 : decode M_X11_follows.2.1 290 = .ok (.iload 12, 2) := by decide +kernel
theorem d_X11_follows_292 : decode M_X11_follows.2.1 292 = .ok (.iadd, 1) := by decide +kernel
theorem d_X11_follows_293 : decode M_X11_follows.2.1 293 = .ok (.putfield 337, 3) := by decide +kernel
theorem d_X11_follows_296 : decode M_X11_follows.2.1 296 = .ok (.return_, 1) := by decide +kernel
theorem ce_X11_follows : zw_CeV M_X11_follows 7 := ⟨⟨⟨by decide +kernel, by decide +kernel, by decide +kernel⟩, (zw_mG (List.mem_of_getElem? (i := 1586) (by decide +kernel)) rfl), (zw_mG (List.mem_of_getElem? (i := 108) (by decide +kernel)) rfl), by decide, by decide +kernel⟩, (zw_mG (List.mem_of_getElem? (i := 1585) (by decide +kernel)) rfl), (zw_mG (List.mem_of_getElem? (i := 78) (by decide +kernel)) rfl)⟩
def j_X11_follows_175_19 (v0 : Nat) (v1 : Int32) (v2 : Int32) (v3 : Int32) (v8 : Int32) (v9 : Int32) (v10 : Int32) (v11 : Int32) (v12 : Int32) (I : zI) (R : zR) : Option ((Int32 × Int32 × Int32 × Int32 × Int32 × zI) ⊕ (Int32 × Int32 × zI)) :=
  (f_X11_stepX v10).bind fun q11 => (zw_let ((v8 + q11) : Int32) fun x12 => ((f_X11_stepY v10).bind fun q13 => (zw_let ((v9 + q13) : Int32) fun x14 => (zw_g (zw_gc v0 11) ((f_X11_cellAt v0 v1 x12 x14 I R).bind fun q16 => ((f_X11_hasSide q16 ((v10 + 2) - (v10 + 2) / 4 * 4)).bind fun q17 => (if q17 = 0 then zw_g (zw_gc (R v0 23) 13) (zw_g (zw_in ((4 * v2) + v3) (zw_SH (R v0 23)).2) (zw_let (((v11 * (I (R v0 23) (Int32.toNatClampNeg ((4 * v2) + v3)))) / 1000) : Int32) fun x21 => ((f_X11_goesOut v0 v10 v8 x21 I R).bind fun q22 => (zw_let ((v11 - x21) : Int32) fun x23 => (zw_let (((v10 + 2) - (v10 + 2) / 4 * 4) : Int32) fun x24 => (some (.inl (v8, v9, x24, x23, v12, q22)))))))) else some (.inl (x12, x14, v10, v11, v12, I)))))))))
theorem j_X11_follows_175_19_ok (X : zw_X) (P : Option Value → aS → Prop) (v0 : Nat) (v1 : Int32) (v2 : Int32) (v3 : Int32) (v8 : Int32) (v9 : Int32) (v10 : Int32) (v11 : Int32) (v12 : Int32) (I : zI) (R : zR) (J : zJ) (o : (Int32 × Int32 × Int32 × Int32 × Int32 × zI) ⊕ (Int32 × Int32 × zI)) (hf : j_X11_follows_175_19 v0 v1 v2 v3 v8 v9 v10 v11 v12 I R = some o) (hk : (zw_se (fun t => zy_V X M_X11_follows 2 P 19 [.ref v0, .int v1, .int v2, .int v3, .null, .null, .null, .null, .int t.1, .int t.2.1, .int t.2.2.1, .int t.2.2.2.1, .int t.2.2.2.2.1, .null, .null, .null, .null] [] (t.2.2.2.2.2, R, J)) (fun r => zy_V X M_X11_follows 2 P 274 [.ref v0, .null, .null, .null, .null, .null, .null, .null, .null, .null, .null, .int r.1, .int r.2.1, .null, .null, .null, .null] [] (r.2.2, R, J)) o)) : zy_V X M_X11_follows 2 P 175 [.ref v0, .int v1, .int v2, .int v3, .null, .null, .null, .null, .int v8, .int v9, .int v10, .int v11, .int v12, .null, .null, .null, .null] [] (I, R, J) := by
  unfold j_X11_follows_175_19 at hf
  refine zv_iload (pc := 175) d_X11_follows_175 rfl ?_
  refine zv_iload (pc := 177) d_X11_follows_177 rfl ?_
  obtain ⟨q11, hq11, hf⟩ := zw_bdE hf
  refine zx_callS (pc := 179) (As := [.int v10]) (st := [.int v8]) (d2 := 0) (M2 := M_X11_stepX) (P2 := (fun r S => r = (some (.int q11)) ∧ S = (I, R, J))) d_X11_follows_179 (zw_mG (List.mem_of_getElem? (i := 1568) (by decide +kernel)) rfl) ce_X11_stepX (Nat.le_of_ble_eq_true rfl) rfl (Nat.le_of_ble_eq_true rfl) (by decide) (c_X11_stepX X v10 I R J _ hq11 ⟨rfl, rfl⟩) ?_
  rintro _ _ ⟨rfl, rfl⟩
  show zy_V X M_X11_follows 2 P (179 + 3) [.ref v0, .int v1, .int v2, .int v3, .null, .null, .null, .null, .int v8, .int v9, .int v10, .int v11, .int v12, .null, .null, .null, .null] [.int q11, .int v8] (I, R, J)
  refine zv_iadd (pc := 182) d_X11_follows_182 ?_
  obtain ⟨x12, ex12, hf⟩ := zw_letE hf
  refine zx_istore (pc := 183) (x2 := x12) (L2 := [.ref v0, .int v1, .int v2, .int v3, .null, .null, .null, .null, .int v8, .int v9, .int v10, .int v11, .int v12, .null, .int x12, .null, .null]) d_X11_follows_183 (by decide) ex12 rfl ?_
  refine zv_iload (pc := 185) d_X11_follows_185 rfl ?_
  refine zv_iload (pc := 187) d_X11_follows_187 rfl ?_
  obtain ⟨q13, hq13, hf⟩ := zw_bdE hf
  refine zx_callS (pc := 189) (As := [.int v10]) (st := [.int v9]) (d2 := 0) (M2 := M_X11_stepY) (P2 := (fun r S => r = (some (.int q13)) ∧ S = (I, R, J))) d_X11_follows_189 (zw_mG (List.mem_of_getElem? (i := 1571) (by decide +kernel)) rfl) ce_X11_stepY (Nat.le_of_ble_eq_true rfl) rfl (Nat.le_of_ble_eq_true rfl) (by decide) (c_X11_stepY X v10 I R J _ hq13 ⟨rfl, rfl⟩) ?_
  rintro _ _ ⟨rfl, rfl⟩
  show zy_V X M_X11_follows 2 P (189 + 3) [.ref v0, .int v1, .int v2, .int v3, .null, .null, .null, .null, .int v8, .int v9, .int v10, .int v11, .int v12, .null, .int x12, .null, .null] [.int q13, .int v9] (I, R, J)
  refine zv_iadd (pc := 192) d_X11_follows_192 ?_
  obtain ⟨x14, ex14, hf⟩ := zw_letE hf
  refine zx_istore (pc := 193) (x2 := x14) (L2 := [.ref v0, .int v1, .int v2, .int v3, .null, .null, .null, .null, .int v8, .int v9, .int v10, .int v11, .int v12, .null, .int x12, .int x14, .null]) d_X11_follows_193 (by decide) ex14 rfl ?_
  refine zv_aload_n (pc := 195) d_X11_follows_195 rfl ?_
  refine zv_iload_n (pc := 196) d_X11_follows_196 rfl ?_
  refine zv_iload (pc := 197) d_X11_follows_197 rfl ?_
  refine zv_iload (pc := 199) d_X11_follows_199 rfl ?_
  obtain ⟨g15, hf⟩ := zw_gcE hf (by decide)
  obtain ⟨q16, hq16, hf⟩ := zw_bdE hf
  refine zx_callV (pc := 201) (As := [.int v1, .int x12, .int x14]) (o := v0) (st := []) (d2 := 0) (M2 := M_X11_cellAt) (P2 := (fun r S => r = (some (.int q16)) ∧ S = (I, R, J))) d_X11_follows_201 (zw_mG (List.mem_of_getElem? (i := 1533) (by decide +kernel)) rfl) ce_X11_cellAt (zw_RvK g15 rfl rfl) (Nat.le_of_ble_eq_true rfl) rfl (Nat.le_of_ble_eq_true rfl) (by decide) (c_X11_cellAt X v0 v1 x12 x14 I R J _ hq16 ⟨rfl, rfl⟩) ?_
  rintro _ _ ⟨rfl, rfl⟩
  show zy_V X M_X11_follows 2 P (201 + 3) [.ref v0, .int v1, .int v2, .int v3, .null, .null, .null, .null, .int v8, .int v9, .int v10, .int v11, .int v12, .null, .int x12, .int x14, .null] [.int q16] (I, R, J)
  refine zv_iload (pc := 204) d_X11_follows_204 rfl ?_
  refine zv_iconst (pc := 206) d_X11_follows_206 zc_i_2 ?_
  refine zv_iadd (pc := 207) d_X11_follows_207 ?_
  refine zv_iconst (pc := 208) d_X11_follows_208 zc_i_4 ?_
  refine zv_irem (pc := 209) d_X11_follows_209 (by decide +kernel) ?_
  obtain ⟨q17, hq17, hf⟩ := zw_bdE hf
  refine zx_callS (pc := 210) (As := [.int q16, .int ((v10 + 2) - (v10 + 2) / 4 * 4)]) (st := []) (d2 := 1) (M2 := M_X11_hasSide) (P2 := (fun r S => r = (some (.int q17)) ∧ S = (I, R, J))) d_X11_follows_210 (zw_mG (List.mem_of_getElem? (i := 1574) (by decide +kernel)) rfl) ce_X11_hasSide (Nat.le_of_ble_eq_true rfl) rfl (Nat.le_of_ble_eq_true rfl) (by decide) (c_X11_hasSide X q16 ((v10 + 2) - (v10 + 2) / 4 * 4) I R J _ hq17 ⟨rfl, rfl⟩) ?_
  rintro _ _ ⟨rfl, rfl⟩
  show zy_V X M_X11_follows 2 P (210 + 3) [.ref v0, .int v1, .int v2, .int v3, .null, .null, .null, .null, .int v8, .int v9, .int v10, .int v11, .int v12, .null, .int x12, .int x14, .null] [.int q17] (I, R, J)
  rcases zw_ifE hf with ⟨c18, hf⟩ | ⟨c18, hf⟩
  · refine zv_if_eq (pc := 213) (tg := 227) d_X11_follows_213 (by decide) (fun _ => ?_) (fun q => absurd c18 q)
    refine zv_iload (pc := 227) d_X11_follows_227 rfl ?_
    refine zv_aload_n (pc := 229) d_X11_follows_229 rfl ?_
    obtain ⟨g19, hf⟩ := zw_gcE hf (by decide)
    refine zx_getR (pc := 230) d_X11_follows_230 lk_CutStonesModel_49 (by decide) g15 g19 ?_
    refine zv_iconst (pc := 233) d_X11_follows_233 zc_i_4 ?_
    refine zv_iload_n (pc := 234) d_X11_follows_234 rfl ?_
    refine zv_imul (pc := 235) d_X11_follows_235 ?_
    refine zv_iload_n (pc := 236) d_X11_follows_236 rfl ?_
    refine zv_iadd (pc := 237) d_X11_follows_237 ?_
    obtain ⟨i20, hf⟩ := zw_inE hf
    refine zx_iald (pc := 238) d_X11_follows_238 g19 i20 ?_
    refine zv_imul (pc := 239) d_X11_follows_239 ?_
    refine zv_sipush (pc := 240) d_X11_follows_240 zc_s_1000 ?_
    refine zv_idiv (pc := 243) d_X11_follows_243 (by decide +kernel) ?_
    obtain ⟨x21, ex21, hf⟩ := zw_letE hf
    refine zx_istore (pc := 244) (x2 := x21) (L2 := [.ref v0, .int v1, .int v2, .int v3, .null, .null, .null, .null, .int v8, .int v9, .int v10, .int v11, .int v12, .null, .int x12, .int x14, .int x21]) d_X11_follows_244 (by decide) ex21 rfl ?_
    refine zv_aload_n (pc := 246) d_X11_follows_246 rfl ?_
    refine zv_iload (pc := 247) d_X11_follows_247 rfl ?_
    refine zv_iload (pc := 249) d_X11_follows_249 rfl ?_
    refine zv_iload (pc := 251) d_X11_follows_251 rfl ?_
    obtain ⟨q22, hq22, hf⟩ := zw_bdE hf
    refine zx_callV (pc := 253) (As := [.int v10, .int v8, .int x21]) (o := v0) (st := []) (d2 := 0) (M2 := M_X11_goesOut) (P2 := (fun r S => r = none ∧ S = (q22, R, J))) d_X11_follows_253 (zw_mG (List.mem_of_getElem? (i := 1587) (by decide +kernel)) rfl) ce_X11_goesOut (zw_RvK g15 rfl rfl) (Nat.le_of_ble_eq_true rfl) rfl (Nat.le_of_ble_eq_true rfl) (by decide) (c_X11_goesOut X v0 v10 v8 x21 I R J _ hq22 ⟨rfl, rfl⟩) ?_
    rintro _ _ ⟨rfl, rfl⟩
    show zy_V X M_X11_follows 2 P (253 + 3) [.ref v0, .int v1, .int v2, .int v3, .null, .null, .null, .null, .int v8, .int v9, .int v10, .int v11, .int v12, .null, .int x12, .int x14, .int x21] [] (q22, R, J)
    refine zv_iload (pc := 256) d_X11_follows_256 rfl ?_
    refine zv_iload (pc := 258) d_X11_follows_258 rfl ?_
    refine zv_isub (pc := 260) d_X11_follows_260 ?_
    obtain ⟨x23, ex23, hf⟩ := zw_letE hf
    refine zx_istore (pc := 261) (x2 := x23) (L2 := [.ref v0, .int v1, .int v2, .int v3, .null, .null, .null, .null, .int v8, .int v9, .int v10, .int x23, .int v12, .null, .int x12, .int x14, .int x21]) d_X11_follows_261 (by decide) ex23 rfl ?_
    refine zv_iload (pc := 263) d_X11_follows_263 rfl ?_
    refine zv_iconst (pc := 265) d_X11_follows_265 zc_i_2 ?_
    refine zv_iadd (pc := 266) d_X11_follows_266 ?_
    refine zv_iconst (pc := 267) d_X11_follows_267 zc_i_4 ?_
    refine zv_irem (pc := 268) d_X11_follows_268 (by decide +kernel) ?_
    obtain ⟨x24, ex24, hf⟩ := zw_letE hf
    refine zx_istore (pc := 269) (x2 := x24) (L2 := [.ref v0, .int v1, .int v2, .int v3, .null, .null, .null, .null, .int v8, .int v9, .int x24, .int x23, .int v12, .null, .int x12, .int x14, .int x21]) d_X11_follows_269 (by decide) ex24 rfl ?_
    refine zv_goto (pc := 271) (tg := 19) d_X11_follows_271 (by decide) ?_
    cases hf
    exact zx_weak (zw_leS (zw_leS (zw_leS (zw_leS (zw_leN (zw_leN (zw_leN (zw_leN (zw_leS (zw_leS (zw_leS (zw_leS (zw_leS (zw_leN (zw_leN (zw_leN (zw_leN zw_leZ))))))))))))))))) hk
  · refine zv_if_eq (pc := 213) (tg := 227) d_X11_follows_213 (by decide) (fun q => absurd q c18) (fun _ => ?_)
    refine zv_iload (pc := 216) d_X11_follows_216 rfl ?_
    refine zx_istore (pc := 218) (x2 := x12) (L2 := [.ref v0, .int v1, .int v2, .int v3, .null, .null, .null, .null, .int x12, .int v9, .int v10, .int v11, .int v12, .null, .int x12, .int x14, .null]) d_X11_follows_218 (by decide) rfl rfl ?_
    refine zv_iload (pc := 220) d_X11_follows_220 rfl ?_
    refine zx_istore (pc := 222) (x2 := x14) (L2 := [.ref v0, .int v1, .int v2, .int v3, .null, .null, .null, .null, .int x12, .int x14, .int v10, .int v11, .int v12, .null, .int x12, .int x14, .null]) d_X11_follows_222 (by decide) rfl rfl ?_
    refine zv_goto (pc := 224) (tg := 19) d_X11_follows_224 (by decide) ?_
    cases hf
    exact zx_weak (zw_leS (zw_leS (zw_leS (zw_leS (zw_leN (zw_leN (zw_leN (zw_leN (zw_leS (zw_leS (zw_leS (zw_leS (zw_leS (zw_leN (zw_leN (zw_leN (zw_leN zw_leZ))))))))))))))))) hk
def j_X11_follows_173_19 (v0 : Nat) (v1 : Int32) (v2 : Int32) (v3 : Int32) (v8 : Int32) (v9 : Int32) (v11 : Int32) (v12 : Int32) (s0 : Int32) (I : zI) (R : zR) : Option ((Int32 × Int32 × Int32 × Int32 × Int32 × zI) ⊕ (Int32 × Int32 × zI)) :=
  j_X11_follows_175_19 v0 v1 v2 v3 v8 v9 s0 v11 v12 I R
theorem j_X11_follows_173_19_ok (X : zw_X) (P : Option Value → aS → Prop) (v0 : Nat) (v1 : Int32) (v2 : Int32) (v3 : Int32) (v8 : Int32) (v9 : Int32) (v11 : Int32) (v12 : Int32) (s0 : Int32) (I : zI) (R : zR) (J : zJ) (o : (Int32 × Int32 × Int32 × Int32 × Int32 × zI) ⊕ (Int32 × Int32 × zI)) (hf : j_X11_follows_173_19 v0 v1 v2 v3 v8 v9 v11 v12 s0 I R = some o) (hk : (zw_se (fun t => zy_V X M_X11_follows 2 P 19 [.ref v0, .int v1, .int v2, .int v3, .null, .null, .null, .null, .int t.1, .int t.2.1, .int t.2.2.1, .int t.2.2.2.1, .int t.2.2.2.2.1, .null, .null, .null, .null] [] (t.2.2.2.2.2, R, J)) (fun r => zy_V X M_X11_follows 2 P 274 [.ref v0, .null, .null, .null, .null, .null, .null, .null, .null, .null, .null, .int r.1, .int r.2.1, .null, .null, .null, .null] [] (r.2.2, R, J)) o)) : zy_V X M_X11_follows 2 P 173 [.ref v0, .int v1, .int v2, .int v3, .null, .null, .null, .null, .int v8, .int v9, .null, .int v11, .int v12, .null, .null, .null, .null] [.int s0] (I, R, J) := by
  unfold j_X11_follows_173_19 at hf
  refine zx_istore (pc := 173) (x2 := s0) (L2 := [.ref v0, .int v1, .int v2, .int v3, .null, .null, .null, .null, .int v8, .int v9, .int s0, .int v11, .int v12, .null, .null, .null, .null]) d_X11_follows_173 (by decide) rfl rfl ?_
  exact zx_weak (zw_leS (zw_leS (zw_leS (zw_leS (zw_leN (zw_leN (zw_leN (zw_leN (zw_leS (zw_leS (zw_leS (zw_leS (zw_leS (zw_leN (zw_leN (zw_leN (zw_leN zw_leZ))))))))))))))))) (j_X11_follows_175_19_ok X P v0 v1 v2 v3 v8 v9 s0 v11 v12 I R J _ hf hk)
def j_X11_follows_111_19 (v0 : Nat) (v1 : Int32) (v2 : Int32) (v3 : Int32) (v8 : Int32) (v9 : Int32) (v10 : Int32) (v11 : Int32) (v12 : Int32) (v13 : Int32) (I : zI) (R : zR) : Option ((Int32 × Int32 × Int32 × Int32 × Int32 × zI) ⊕ (Int32 × Int32 × zI)) :=
  if 5 ≤ v13 then j_X11_follows_175_19 v0 v1 v2 v3 v8 v9 v10 v11 v12 I R else zw_g (zw_gc v0 11) (zw_g (zw_gc (R v0 24) 13) (zw_g (zw_in ((4 * v2) + v3) (zw_SH (R v0 24)).2) (zw_let (((v11 * (I (R v0 24) (Int32.toNatClampNeg ((4 * v2) + v3)))) / 1000) : Int32) fun x28 => ((f_X11_goesOut v0 v10 v8 x28 I R).bind fun q29 => (zw_let ((v11 - x28) : Int32) fun x30 => (if ¬ (v10 - v10 / 2 * 2) = 0 then (f_X11_upDown v13).bind fun q32 => (j_X11_follows_173_19 v0 v1 v2 v3 v8 v9 x30 v12 q32 q29 R) else (f_X11_across v13).bind fun q33 => (j_X11_follows_173_19 v0 v1 v2 v3 v8 v9 x30 v12 q33 q29 R)))))))
theorem j_X11_follows_111_19_ok (X : zw_X) (P : Option Value → aS → Prop) (v0 : Nat) (v1 : Int32) (v2 : Int32) (v3 : Int32) (v8 : Int32) (v9 : Int32) (v10 : Int32) (v11 : Int32) (v12 : Int32) (v13 : Int32) (I : zI) (R : zR) (J : zJ) (o : (Int32 × Int32 × Int32 × Int32 × Int32 × zI) ⊕ (Int32 × Int32 × zI)) (hf : j_X11_follows_111_19 v0 v1 v2 v3 v8 v9 v10 v11 v12 v13 I R = some o) (hk : (zw_se (fun t => zy_V X M_X11_follows 2 P 19 [.ref v0, .int v1, .int v2, .int v3, .null, .null, .null, .null, .int t.1, .int t.2.1, .int t.2.2.1, .int t.2.2.2.1, .int t.2.2.2.2.1, .null, .null, .null, .null] [] (t.2.2.2.2.2, R, J)) (fun r => zy_V X M_X11_follows 2 P 274 [.ref v0, .null, .null, .null, .null, .null, .null, .null, .null, .null, .null, .int r.1, .int r.2.1, .null, .null, .null, .null] [] (r.2.2, R, J)) o)) : zy_V X M_X11_follows 2 P 111 [.ref v0, .int v1, .int v2, .int v3, .null, .null, .null, .null, .int v8, .int v9, .int v10, .int v11, .int v12, .int v13, .null, .null, .null] [] (I, R, J) := by
  unfold j_X11_follows_111_19 at hf
  refine zv_iload (pc := 111) d_X11_follows_111 rfl ?_
  refine zv_iconst (pc := 113) d_X11_follows_113 zc_i_5 ?_
  rcases zw_ifE hf with ⟨c10, hf⟩ | ⟨c10, hf⟩
  · refine zv_icmp_ge (pc := 114) (tg := 175) d_X11_follows_114 (by decide) (fun _ => ?_) (fun q => absurd c10 q)
    exact zx_weak (zw_leS (zw_leS (zw_leS (zw_leS (zw_leN (zw_leN (zw_leN (zw_leN (zw_leS (zw_leS (zw_leS (zw_leS (zw_leS (zw_leN (zw_leN (zw_leN (zw_leN zw_leZ))))))))))))))))) (j_X11_follows_175_19_ok X P v0 v1 v2 v3 v8 v9 v10 v11 v12 I R J _ hf hk)
  · refine zv_icmp_ge (pc := 114) (tg := 175) d_X11_follows_114 (by decide) (fun q => absurd q c10) (fun _ => ?_)
    refine zv_iload (pc := 117) d_X11_follows_117 rfl ?_
    refine zv_aload_n (pc := 119) d_X11_follows_119 rfl ?_
    obtain ⟨g25, hf⟩ := zw_gcE hf (by decide)
    obtain ⟨g26, hf⟩ := zw_gcE hf (by decide)
    refine zx_getR (pc := 120) d_X11_follows_120 lk_CutStonesModel_52 (by decide) g25 g26 ?_
    refine zv_iconst (pc := 123) d_X11_follows_123 zc_i_4 ?_
    refine zv_iload_n (pc := 124) d_X11_follows_124 rfl ?_
    refine zv_imul (pc := 125) d_X11_follows_125 ?_
    refine zv_iload_n (pc := 126) d_X11_follows_126 rfl ?_
    refine zv_iadd (pc := 127) d_X11_follows_127 ?_
    obtain ⟨i27, hf⟩ := zw_inE hf
    refine zx_iald (pc := 128) d_X11_follows_128 g26 i27 ?_
    refine zv_imul (pc := 129) d_X11_follows_129 ?_
    refine zv_sipush (pc := 130) d_X11_follows_130 zc_s_1000 ?_
    refine zv_idiv (pc := 133) d_X11_follows_133 (by decide +kernel) ?_
    obtain ⟨x28, ex28, hf⟩ := zw_letE hf
    refine zx_istore (pc := 134) (x2 := x28) (L2 := [.ref v0, .int v1, .int v2, .int v3, .null, .null, .null, .null, .int v8, .int v9, .int v10, .int v11, .int v12, .int v13, .int x28, .null, .null]) d_X11_follows_134 (by decide) ex28 rfl ?_
    refine zv_aload_n (pc := 136) d_X11_follows_136 rfl ?_
    refine zv_iload (pc := 137) d_X11_follows_137 rfl ?_
    refine zv_iload (pc := 139) d_X11_follows_139 rfl ?_
    refine zv_iload (pc := 141) d_X11_follows_141 rfl ?_
    obtain ⟨q29, hq29, hf⟩ := zw_bdE hf
    refine zx_callV (pc := 143) (As := [.int v10, .int v8, .int x28]) (o := v0) (st := []) (d2 := 0) (M2 := M_X11_goesOut) (P2 := (fun r S => r = none ∧ S = (q29, R, J))) d_X11_follows_143 (zw_mG (List.mem_of_getElem? (i := 1587) (by decide +kernel)) rfl) ce_X11_goesOut (zw_RvK g25 rfl rfl) (Nat.le_of_ble_eq_true rfl) rfl (Nat.le_of_ble_eq_true rfl) (by decide) (c_X11_goesOut X v0 v10 v8 x28 I R J _ hq29 ⟨rfl, rfl⟩) ?_
    rintro _ _ ⟨rfl, rfl⟩
    show zy_V X M_X11_follows 2 P (143 + 3) [.ref v0, .int v1, .int v2, .int v3, .null, .null, .null, .null, .int v8, .int v9, .int v10, .int v11, .int v12, .int v13, .int x28, .null, .null] [] (q29, R, J)
    refine zv_iload (pc := 146) d_X11_follows_146 rfl ?_
    refine zv_iload (pc := 148) d_X11_follows_148 rfl ?_
    refine zv_isub (pc := 150) d_X11_follows_150 ?_
    obtain ⟨x30, ex30, hf⟩ := zw_letE hf
    refine zx_istore (pc := 151) (x2 := x30) (L2 := [.ref v0, .int v1, .int v2, .int v3, .null, .null, .null, .null, .int v8, .int v9, .int v10, .int x30, .int v12, .int v13, .int x28, .null, .null]) d_X11_follows_151 (by decide) ex30 rfl ?_
    refine zv_iload (pc := 153) d_X11_follows_153 rfl ?_
    refine zv_iconst (pc := 155) d_X11_follows_155 zc_i_2 ?_
    refine zv_irem (pc := 156) d_X11_follows_156 (by decide +kernel) ?_
    rcases zw_ifE hf with ⟨c31, hf⟩ | ⟨c31, hf⟩
    · refine zv_if_ne (pc := 157) (tg := 168) d_X11_follows_157 (by decide) (fun _ => ?_) (fun q => absurd q c31)
      refine zv_iload (pc := 168) d_X11_follows_168 rfl ?_
      obtain ⟨q32, hq32, hf⟩ := zw_bdE hf
      refine zx_callS (pc := 170) (As := [.int v13]) (st := []) (d2 := 0) (M2 := M_X11_upDown) (P2 := (fun r S => r = (some (.int q32)) ∧ S = (q29, R, J))) d_X11_follows_170 (zw_mG (List.mem_of_getElem? (i := 1577) (by decide +kernel)) rfl) ce_X11_upDown (Nat.le_of_ble_eq_true rfl) rfl (Nat.le_of_ble_eq_true rfl) (by decide) (c_X11_upDown X v13 q29 R J _ hq32 ⟨rfl, rfl⟩) ?_
      rintro _ _ ⟨rfl, rfl⟩
      show zy_V X M_X11_follows 2 P (170 + 3) [.ref v0, .int v1, .int v2, .int v3, .null, .null, .null, .null, .int v8, .int v9, .int v10, .int x30, .int v12, .int v13, .int x28, .null, .null] [.int q32] (q29, R, J)
      exact zx_weak (zw_leS (zw_leS (zw_leS (zw_leS (zw_leN (zw_leN (zw_leN (zw_leN (zw_leS (zw_leS (zw_leN (zw_leS (zw_leS (zw_leN (zw_leN (zw_leN (zw_leN zw_leZ))))))))))))))))) (j_X11_follows_173_19_ok X P v0 v1 v2 v3 v8 v9 x30 v12 q32 q29 R J _ hf hk)
    · refine zv_if_ne (pc := 157) (tg := 168) d_X11_follows_157 (by decide) (fun q => absurd q c31) (fun _ => ?_)
      refine zv_iload (pc := 160) d_X11_follows_160 rfl ?_
      obtain ⟨q33, hq33, hf⟩ := zw_bdE hf
      refine zx_callS (pc := 162) (As := [.int v13]) (st := []) (d2 := 0) (M2 := M_X11_across) (P2 := (fun r S => r = (some (.int q33)) ∧ S = (q29, R, J))) d_X11_follows_162 (zw_mG (List.mem_of_getElem? (i := 1580) (by decide +kernel)) rfl) ce_X11_across (Nat.le_of_ble_eq_true rfl) rfl (Nat.le_of_ble_eq_true rfl) (by decide) (c_X11_across X v13 q29 R J _ hq33 ⟨rfl, rfl⟩) ?_
      rintro _ _ ⟨rfl, rfl⟩
      show zy_V X M_X11_follows 2 P (162 + 3) [.ref v0, .int v1, .int v2, .int v3, .null, .null, .null, .null, .int v8, .int v9, .int v10, .int x30, .int v12, .int v13, .int x28, .null, .null] [.int q33] (q29, R, J)
      refine zv_goto (pc := 165) (tg := 173) d_X11_follows_165 (by decide) ?_
      exact zx_weak (zw_leS (zw_leS (zw_leS (zw_leS (zw_leN (zw_leN (zw_leN (zw_leN (zw_leS (zw_leS (zw_leN (zw_leS (zw_leS (zw_leN (zw_leN (zw_leN (zw_leN zw_leZ))))))))))))))))) (j_X11_follows_173_19_ok X P v0 v1 v2 v3 v8 v9 x30 v12 q33 q29 R J _ hf hk)
def s_X11_follows_19 (v0 : Nat) (v1 : Int32) (v2 : Int32) (v3 : Int32) (R : zR) (s : Int32 × Int32 × Int32 × Int32 × Int32 × zI) : Option ((Int32 × Int32 × Int32 × Int32 × Int32 × zI) ⊕ (Int32 × Int32 × zI)) :=
  if s.2.2.2.1 ≤ 0 then some (.inr (s.2.2.2.1, s.2.2.2.2.1, s.2.2.2.2.2)) else if 300 ≤ s.2.2.2.2.1 then some (.inr (s.2.2.2.1, s.2.2.2.2.1, s.2.2.2.2.2)) else zw_g (zw_gc v0 11) ((f_X11_cellAt v0 v1 s.1 s.2.1 s.2.2.2.2.2 R).bind fun q4 => (zw_g (zw_gc (R v0 60) 13) (zw_g (zw_in s.2.2.2.2.1 (zw_SH (R v0 60)).2) (zw_let (zw_u s.2.2.2.2.2 (R v0 60) (Int32.toNatClampNeg s.2.2.2.2.1) ((12 * s.2.1) + s.1) : zI) fun I7 => (zw_let (s.2.2.2.2.1 + 1 : Int32) fun x8 => (if ¬ q4 = 6 then j_X11_follows_111_19 v0 v1 v2 v3 s.1 s.2.1 s.2.2.1 s.2.2.2.1 x8 q4 I7 R else zw_g (zw_gc (R v0 25) 13) (zw_g (zw_in v2 (zw_SH (R v0 25)).2) (zw_let (((s.2.2.2.1 * (I7 (R v0 25) (Int32.toNatClampNeg v2))) / 1000) : Int32) fun x36 => (zw_let (zw_u I7 v0 55 ((I7 v0 55) + x36) : zI) fun I37 => (zw_let ((s.2.2.2.1 - x36) : Int32) fun x38 => (zw_let (zw_u I37 v0 58 ((I37 v0 58) + 1) : zI) fun I39 => (j_X11_follows_111_19 v0 v1 v2 v3 s.1 s.2.1 s.2.2.1 x38 x8 q4 I39 R))))))))))))
theorem s_X11_follows_19_ok (X : zw_X) (P : Option Value → aS → Prop) (v0 : Nat) (v1 : Int32) (v2 : Int32) (v3 : Int32) (R : zR) (J : zJ) (s : Int32 × Int32 × Int32 × Int32 × Int32 × zI) (o : (Int32 × Int32 × Int32 × Int32 × Int32 × zI) ⊕ (Int32 × Int32 × zI)) (hf : s_X11_follows_19 v0 v1 v2 v3 R s = some o) (hk : (zw_se (fun t => zy_V X M_X11_follows 2 P 19 [.ref v0, .int v1, .int v2, .int v3, .null, .null, .null, .null, .int t.1, .int t.2.1, .int t.2.2.1, .int t.2.2.2.1, .int t.2.2.2.2.1, .null, .null, .null, .null] [] (t.2.2.2.2.2, R, J)) (fun r => zy_V X M_X11_follows 2 P 274 [.ref v0, .null, .null, .null, .null, .null, .null, .null, .null, .null, .null, .int r.1, .int r.2.1, .null, .null, .null, .null] [] (r.2.2, R, J)) o)) : zy_V X M_X11_follows 2 P 19 [.ref v0, .int v1, .int v2, .int v3, .null, .null, .null, .null, .int s.1, .int s.2.1, .int s.2.2.1, .int s.2.2.2.1, .int s.2.2.2.2.1, .null, .null, .null, .null] [] (s.2.2.2.2.2, R, J) := by
  unfold s_X11_follows_19 at hf
  refine zv_iload (pc := 19) d_X11_follows_19 rfl ?_
  rcases zw_ifE hf with ⟨c1, hf⟩ | ⟨c1, hf⟩
  · refine zv_if_le (pc := 21) (tg := 274) d_X11_follows_21 (by decide) (fun _ => ?_) (fun q => absurd c1 q)
    cases hf
    exact zx_weak (zw_leS (zw_leN (zw_leN (zw_leN (zw_leN (zw_leN (zw_leN (zw_leN (zw_leN (zw_leN (zw_leN (zw_leS (zw_leS (zw_leN (zw_leN (zw_leN (zw_leN zw_leZ))))))))))))))))) hk
  · refine zv_if_le (pc := 21) (tg := 274) d_X11_follows_21 (by decide) (fun q => absurd q c1) (fun _ => ?_)
    refine zv_iload (pc := 24) d_X11_follows_24 rfl ?_
    refine zv_sipush (pc := 26) d_X11_follows_26 zc_s_300 ?_
    rcases zw_ifE hf with ⟨c2, hf⟩ | ⟨c2, hf⟩
    · refine zv_icmp_ge (pc := 29) (tg := 274) d_X11_follows_29 (by decide) (fun _ => ?_) (fun q => absurd c2 q)
      cases hf
      exact zx_weak (zw_leS (zw_leN (zw_leN (zw_leN (zw_leN (zw_leN (zw_leN (zw_leN (zw_leN (zw_leN (zw_leN (zw_leS (zw_leS (zw_leN (zw_leN (zw_leN (zw_leN zw_leZ))))))))))))))))) hk
    · refine zv_icmp_ge (pc := 29) (tg := 274) d_X11_follows_29 (by decide) (fun q => absurd q c2) (fun _ => ?_)
      refine zv_aload_n (pc := 32) d_X11_follows_32 rfl ?_
      refine zv_iload_n (pc := 33) d_X11_follows_33 rfl ?_
      refine zv_iload (pc := 34) d_X11_follows_34 rfl ?_
      refine zv_iload (pc := 36) d_X11_follows_36 rfl ?_
      obtain ⟨g3, hf⟩ := zw_gcE hf (by decide)
      obtain ⟨q4, hq4, hf⟩ := zw_bdE hf
      refine zx_callV (pc := 38) (As := [.int v1, .int s.1, .int s.2.1]) (o := v0) (st := []) (d2 := 0) (M2 := M_X11_cellAt) (P2 := (fun r S => r = (some (.int q4)) ∧ S = (s.2.2.2.2.2, R, J))) d_X11_follows_38 (zw_mG (List.mem_of_getElem? (i := 1533) (by decide +kernel)) rfl) ce_X11_cellAt (zw_RvK g3 rfl rfl) (Nat.le_of_ble_eq_true rfl) rfl (Nat.le_of_ble_eq_true rfl) (by decide) (c_X11_cellAt X v0 v1 s.1 s.2.1 s.2.2.2.2.2 R J _ hq4 ⟨rfl, rfl⟩) ?_
      rintro _ _ ⟨rfl, rfl⟩
      show zy_V X M_X11_follows 2 P (38 + 3) [.ref v0, .int v1, .int v2, .int v3, .null, .null, .null, .null, .int s.1, .int s.2.1, .int s.2.2.1, .int s.2.2.2.1, .int s.2.2.2.2.1, .null, .null, .null, .null] [.int q4] (s.2.2.2.2.2, R, J)
      refine zx_istore (pc := 41) (x2 := q4) (L2 := [.ref v0, .int v1, .int v2, .int v3, .null, .null, .null, .null, .int s.1, .int s.2.1, .int s.2.2.1, .int s.2.2.2.1, .int s.2.2.2.2.1, .int q4, .null, .null, .null]) d_X11_follows_41 (by decide) rfl rfl ?_
      refine zv_aload_n (pc := 43) d_X11_follows_43 rfl ?_
      obtain ⟨g5, hf⟩ := zw_gcE hf (by decide)
      refine zx_getR (pc := 44) d_X11_follows_44 lk_CutStonesModel_131 (by decide) g3 g5 ?_
      refine zv_iload (pc := 47) d_X11_follows_47 rfl ?_
      refine zv_bipush (pc := 49) d_X11_follows_49 zc_b_12 ?_
      refine zv_iload (pc := 51) d_X11_follows_51 rfl ?_
      refine zv_imul (pc := 53) d_X11_follows_53 ?_
      refine zv_iload (pc := 54) d_X11_follows_54 rfl ?_
      refine zv_iadd (pc := 56) d_X11_follows_56 ?_
      obtain ⟨i6, hf⟩ := zw_inE hf
      obtain ⟨I7, eI7, hf⟩ := zw_letE hf
      refine zx_iast (pc := 57) (I2 := I7) d_X11_follows_57 g5 i6 eI7 ?_
      obtain ⟨x8, ex8, hf⟩ := zw_letE hf
      refine zx_iinc (pc := 58) (x2 := x8) (L2 := [.ref v0, .int v1, .int v2, .int v3, .null, .null, .null, .null, .int s.1, .int s.2.1, .int s.2.2.1, .int s.2.2.2.1, .int x8, .int q4, .null, .null, .null]) d_X11_follows_58 (by decide) rfl zc_i_1 ex8 rfl ?_
      refine zv_iload (pc := 61) d_X11_follows_61 rfl ?_
      refine zv_bipush (pc := 63) d_X11_follows_63 zc_b_6 ?_
      rcases zw_ifE hf with ⟨c9, hf⟩ | ⟨c9, hf⟩
      · refine zv_icmp_ne (pc := 65) (tg := 111) d_X11_follows_65 (by decide) (fun _ => ?_) (fun q => absurd q c9)
        exact zx_weak (zw_leS (zw_leS (zw_leS (zw_leS (zw_leN (zw_leN (zw_leN (zw_leN (zw_leS (zw_leS (zw_leS (zw_leS (zw_leS (zw_leS (zw_leN (zw_leN (zw_leN zw_leZ))))))))))))))))) (j_X11_follows_111_19_ok X P v0 v1 v2 v3 s.1 s.2.1 s.2.2.1 s.2.2.2.1 x8 q4 I7 R J _ hf hk)
      · refine zv_icmp_ne (pc := 65) (tg := 111) d_X11_follows_65 (by decide) (fun q => absurd q c9) (fun _ => ?_)
        refine zv_iload (pc := 68) d_X11_follows_68 rfl ?_
        refine zv_aload_n (pc := 70) d_X11_follows_70 rfl ?_
        obtain ⟨g34, hf⟩ := zw_gcE hf (by decide)
        refine zx_getR (pc := 71) d_X11_follows_71 lk_CutStonesModel_55 (by decide) g3 g34 ?_
        refine zv_iload_n (pc := 74) d_X11_follows_74 rfl ?_
        obtain ⟨i35, hf⟩ := zw_inE hf
        refine zx_iald (pc := 75) d_X11_follows_75 g34 i35 ?_
        refine zv_imul (pc := 76) d_X11_follows_76 ?_
        refine zv_sipush (pc := 77) d_X11_follows_77 zc_s_1000 ?_
        refine zv_idiv (pc := 80) d_X11_follows_80 (by decide +kernel) ?_
        obtain ⟨x36, ex36, hf⟩ := zw_letE hf
        refine zx_istore (pc := 81) (x2 := x36) (L2 := [.ref v0, .int v1, .int v2, .int v3, .null, .null, .null, .null, .int s.1, .int s.2.1, .int s.2.2.1, .int s.2.2.2.1, .int x8, .int q4, .int x36, .null, .null]) d_X11_follows_81 (by decide) ex36 rfl ?_
        refine zv_aload_n (pc := 83) d_X11_follows_83 rfl ?_
        refine zv_dup (pc := 84) d_X11_follows_84 rfl ?_
        refine zx_getI (pc := 85) d_X11_follows_85 lk_CutStonesModel_331 (by decide) g3 ?_
        refine zv_iload (pc := 88) d_X11_follows_88 rfl ?_
        refine zv_iadd (pc := 90) d_X11_follows_90 ?_
        obtain ⟨I37, eI37, hf⟩ := zw_letE hf
        refine zx_putI (pc := 91) (I2 := I37) d_X11_follows_91 lk_CutStonesModel_331 rfl g3 eI37 ?_
        refine zv_iload (pc := 94) d_X11_follows_94 rfl ?_
        refine zv_iload (pc := 96) d_X11_follows_96 rfl ?_
        refine zv_isub (pc := 98) d_X11_follows_98 ?_
        obtain ⟨x38, ex38, hf⟩ := zw_letE hf
        refine zx_istore (pc := 99) (x2 := x38) (L2 := [.ref v0, .int v1, .int v2, .int v3, .null, .null, .null, .null, .int s.1, .int s.2.1, .int s.2.2.1, .int x38, .int x8, .int q4, .int x36, .null, .null]) d_X11_follows_99 (by decide) ex38 rfl ?_
        refine zv_aload_n (pc := 101) d_X11_follows_101 rfl ?_
        refine zv_dup (pc := 102) d_X11_follows_102 rfl ?_
        refine zx_getI (pc := 103) d_X11_follows_103 lk_CutStonesModel_340 (by decide) g3 ?_
        refine zv_iconst (pc := 106) d_X11_follows_106 zc_i_1 ?_
        refine zv_iadd (pc := 107) d_X11_follows_107 ?_
        obtain ⟨I39, eI39, hf⟩ := zw_letE hf
        refine zx_putI (pc := 108) (I2 := I39) d_X11_follows_108 lk_CutStonesModel_340 rfl g3 eI39 ?_
        exact zx_weak (zw_leS (zw_leS (zw_leS (zw_leS (zw_leN (zw_leN (zw_leN (zw_leN (zw_leS (zw_leS (zw_leS (zw_leS (zw_leS (zw_leS (zw_leN (zw_leN (zw_leN zw_leZ))))))))))))))))) (j_X11_follows_111_19_ok X P v0 v1 v2 v3 s.1 s.2.1 s.2.2.1 x38 x8 q4 I39 R J _ hf hk)
theorem s_X11_follows_19_lp (X : zw_X) (P : Option Value → aS → Prop) (v0 : Nat) (v1 : Int32) (v2 : Int32) (v3 : Int32) (R : zR) (J : zJ) (n : Nat) (s : Int32 × Int32 × Int32 × Int32 × Int32 × zI) (r : Int32 × Int32 × zI) (h : zw_it (s_X11_follows_19 v0 v1 v2 v3 R) n s = some r) (hq : zy_V X M_X11_follows 2 P 274 [.ref v0, .null, .null, .null, .null, .null, .null, .null, .null, .null, .null, .int r.1, .int r.2.1, .null, .null, .null, .null] [] (r.2.2, R, J)) : zy_V X M_X11_follows 2 P 19 [.ref v0, .int v1, .int v2, .int v3, .null, .null, .null, .null, .int s.1, .int s.2.1, .int s.2.2.1, .int s.2.2.2.1, .int s.2.2.2.2.1, .null, .null, .null, .null] [] (s.2.2.2.2.2, R, J) :=
  zw_itE (A := (fun t : Int32 × Int32 × Int32 × Int32 × Int32 × zI => zy_V X M_X11_follows 2 P 19 [.ref v0, .int v1, .int v2, .int v3, .null, .null, .null, .null, .int t.1, .int t.2.1, .int t.2.2.1, .int t.2.2.2.1, .int t.2.2.2.2.1, .null, .null, .null, .null] [] (t.2.2.2.2.2, R, J))) (Q := (fun r : Int32 × Int32 × zI => zy_V X M_X11_follows 2 P 274 [.ref v0, .null, .null, .null, .null, .null, .null, .null, .null, .null, .null, .int r.1, .int r.2.1, .null, .null, .null, .null] [] (r.2.2, R, J))) (fun s o h1 h2 => s_X11_follows_19_ok X P v0 v1 v2 v3 R J s o h1 h2) n s r h hq
def j_X11_follows_274 (v0 : Nat) (v11 : Int32) (v12 : Int32) (I : zI) (R : zR) : Option (zI) :=
  zw_g (zw_gc v0 11) (zw_let (zw_u I v0 56 ((I v0 56) + v11) : zI) fun I42 => (zw_let (zw_u I42 v0 57 ((I42 v0 57) + v12) : zI) fun I43 => (some I43)))
theorem j_X11_follows_274_ok (X : zw_X) (P : Option Value → aS → Prop) (v0 : Nat) (v11 : Int32) (v12 : Int32) (I : zI) (R : zR) (J : zJ) (o : zI) (hf : j_X11_follows_274 v0 v11 v12 I R = some o) (hk : P none (o, R, J)) : zy_V X M_X11_follows 2 P 274 [.ref v0, .null, .null, .null, .null, .null, .null, .null, .null, .null, .null, .int v11, .int v12, .null, .null, .null, .null] [] (I, R, J) := by
  unfold j_X11_follows_274 at hf
  refine zv_aload_n (pc := 274) d_X11_follows_274 rfl ?_
  refine zv_dup (pc := 275) d_X11_follows_275 rfl ?_
  obtain ⟨g41, hf⟩ := zw_gcE hf (by decide)
  refine zx_getI (pc := 276) d_X11_follows_276 lk_CutStonesModel_334 (by decide) g41 ?_
  refine zv_iload (pc := 279) d_X11_follows_279 rfl ?_
  refine zv_iadd (pc := 281) d_X11_follows_281 ?_
  obtain ⟨I42, eI42, hf⟩ := zw_letE hf
  refine zx_putI (pc := 282) (I2 := I42) d_X11_follows_282 lk_CutStonesModel_334 rfl g41 eI42 ?_
  refine zv_aload_n (pc := 285) d_X11_follows_285 rfl ?_
  refine zv_dup (pc := 286) d_X11_follows_286 rfl ?_
  refine zx_getI (pc := 287) d_X11_follows_287 lk_CutStonesModel_337 (by decide) g41 ?_
  refine zv_iload (pc := 290) d_X11_follows_290 rfl ?_
  refine zv_iadd (pc := 292) d_X11_follows_292 ?_
  obtain ⟨I43, eI43, hf⟩ := zw_letE hf
  refine zx_putI (pc := 293) (I2 := I43) d_X11_follows_293 lk_CutStonesModel_337 rfl g41 eI43 ?_
  cases hf
  exact zx_vret (pc := 296) d_X11_follows_296 rfl hk
def f_X11_follows (v0 : Nat) (v1 : Int32) (v2 : Int32) (v3 : Int32) (v4 : Int32) (v5 : Int32) (v6 : Int32) (v7 : Int32) (I : zI) (R : zR) : Option (zI) :=
  (zw_it (s_X11_follows_19 v0 v1 v2 v3 R) 1000000 (v4, v5, v6, v7, 0, I)).bind fun q40 => (j_X11_follows_274 v0 q40.1 q40.2.1 q40.2.2 R)
theorem c_X11_follows (X : zw_X) (v0 : Nat) (v1 : Int32) (v2 : Int32) (v3 : Int32) (v4 : Int32) (v5 : Int32) (v6 : Int32) (v7 : Int32) (I : zI) (R : zR) (J : zJ) {P : Option Value → aS → Prop} (o : zI) (hf : f_X11_follows v0 v1 v2 v3 v4 v5 v6 v7 I R = some o) (hk : P none (o, R, J)) : zw_C X M_X11_follows 2 0 0 199 [.ref v0, .int v1, .int v2, .int v3, .int v4, .int v5, .int v6, .int v7] (I, R, J) P := by
  show zy_V X M_X11_follows 2 P 0 [.ref v0, .int v1, .int v2, .int v3, .int v4, .int v5, .int v6, .int v7, .null, .null, .null, .null, .null, .null, .null, .null, .null] [] (I, R, J)
  unfold f_X11_follows at hf
  refine zv_iload (pc := 0) d_X11_follows_0 rfl ?_
  refine zx_istore (pc := 2) (x2 := v4) (L2 := [.ref v0, .int v1, .int v2, .int v3, .int v4, .int v5, .int v6, .int v7, .int v4, .null, .null, .null, .null, .null, .null, .null, .null]) d_X11_follows_2 (by decide) rfl rfl ?_
  refine zv_iload (pc := 4) d_X11_follows_4 rfl ?_
  refine zx_istore (pc := 6) (x2 := v5) (L2 := [.ref v0, .int v1, .int v2, .int v3, .int v4, .int v5, .int v6, .int v7, .int v4, .int v5, .null, .null, .null, .null, .null, .null, .null]) d_X11_follows_6 (by decide) rfl rfl ?_
  refine zv_iload (pc := 8) d_X11_follows_8 rfl ?_
  refine zx_istore (pc := 10) (x2 := v6) (L2 := [.ref v0, .int v1, .int v2, .int v3, .int v4, .int v5, .int v6, .int v7, .int v4, .int v5, .int v6, .null, .null, .null, .null, .null, .null]) d_X11_follows_10 (by decide) rfl rfl ?_
  refine zv_iload (pc := 12) d_X11_follows_12 rfl ?_
  refine zx_istore (pc := 14) (x2 := v7) (L2 := [.ref v0, .int v1, .int v2, .int v3, .int v4, .int v5, .int v6, .int v7, .int v4, .int v5, .int v6, .int v7, .null, .null, .null, .null, .null]) d_X11_follows_14 (by decide) rfl rfl ?_
  refine zv_iconst (pc := 16) d_X11_follows_16 zc_i_0 ?_
  refine zx_istore (pc := 17) (x2 := 0) (L2 := [.ref v0, .int v1, .int v2, .int v3, .int v4, .int v5, .int v6, .int v7, .int v4, .int v5, .int v6, .int v7, .int 0, .null, .null, .null, .null]) d_X11_follows_17 (by decide) rfl rfl ?_
  obtain ⟨q40, hq40, hf⟩ := zw_bdE hf
  refine zx_weak (L' := [.ref v0, .int v1, .int v2, .int v3, .null, .null, .null, .null, .int v4, .int v5, .int v6, .int v7, .int 0, .null, .null, .null, .null]) (zw_leS (zw_leS (zw_leS (zw_leS (zw_leN (zw_leN (zw_leN (zw_leN (zw_leS (zw_leS (zw_leS (zw_leS (zw_leS (zw_leN (zw_leN (zw_leN (zw_leN zw_leZ))))))))))))))))) (s_X11_follows_19_lp X P v0 v1 v2 v3 R J _ _ _ hq40 ?_)
  show zy_V X M_X11_follows 2 P 274 [.ref v0, .null, .null, .null, .null, .null, .null, .null, .null, .null, .null, .int q40.1, .int q40.2.1, .null, .null, .null, .null] [] (q40.2.2, R, J)
  exact zx_weak (zw_leS (zw_leN (zw_leN (zw_leN (zw_leN (zw_leN (zw_leN (zw_leN (zw_leN (zw_leN (zw_leN (zw_leS (zw_leS (zw_leN (zw_leN (zw_leN (zw_leN zw_leZ))))))))))))))))) (j_X11_follows_274_ok X P v0 q40.1 q40.2.1 q40.2.2 R J _ hf hk)
abbrev M_X11_holds : zw_M := (⟨"CutStonesModel", "holds", "(I)Z"⟩, prog_13_method_35_code, 4, (Option.some Jvm.ClassFile.FieldType.boolean))
theorem d_X11_holds_0 : decode M_X11_holds.2.1 0 = .ok (.aload_n 0, 1) := by decide +kernel
theorem d_X11_holds_1 : decode M_X11_holds.2.1 1 = .ok (.getfield 85, 3) := by decide +kernel
theorem d_X11_holds_4 : decode M_X11_holds.2.1 4 = .ok (.iload_n 1, 1) := by decide +kernel
theorem d_X11_holds_5 : decode M_X11_holds.2.1 5 = .ok (.iaload, 1) := by decide +kernel
theorem d_X11_holds_6 : decode M_X11_holds.2.1 6 = .ok (.aload_n 0, 1) := by decide +kernel
theorem d_X11_holds_7 : decode M_X11_holds.2.1 7 = .ok (.getfield 88, 3) := by decide +kernel
theorem d_X11_holds_10 : decode M_X11_holds.2.1 10 = .ok (.iload_n 1, 1) := by decide +kernel
theorem d_X11_holds_11 : decode M_X11_holds.2.1 11 = .ok (.iaload, 1) := by decide +kernel
theorem d_X11_holds_12 : decode M_X11_holds.2.1 12 = .ok (.if_icmp .ne 5, 3) := by decide +kernel
theorem d_X11_holds_15 : decode M_X11_holds.2.1 15 = .ok (.iconst 1, 1) := by decide +kernel
theorem d_X11_holds_16 : decode M_X11_holds.2.1 16 = .ok (.ireturn, 1) := by decide +kernel
theorem d_X11_holds_17 : decode M_X11_holds.2.1 17 = .ok (.iconst 0, 1) := by decide +kernel
theorem d_X11_holds_18 : decode M_X11_holds.2.1 18 = .ok (.istore_n 2, 1) := by decide +kernel
theorem d_X11_holds_19 : decode M_X11_holds.2.1 19 = .ok (.aload_n 0, 1) := by decide +kernel
theorem d_X11_holds_20 : decode M_X11_holds.2.1 20 = .ok (.getfield 85, 3) := by decide +kernel
theorem d_X11_holds_23 : decode M_X11_holds.2.1 23 = .ok (.iload_n 1, 1) := by decide +kernel
theorem d_X11_holds_24 : decode M_X11_holds.2.1 24 = .ok (.iaload, 1) := by decide +kernel
theorem d_X11_holds_25 : decode M_X11_holds.2.1 25 = .ok (.istore_n 3, 1) := by decide +kernel
theorem d_X11_holds_26 : decode M_X11_holds.2.1 26 = .ok (.iload_n 3, 1) := by decide +kernel
theorem d_X11_holds_27 : decode M_X11_holds.2.1 27 = .ok (.aload_n 0, 1) := by decide +kernel
theorem d_X11_holds_28 : decode M_X11_holds.2.1 28 = .ok (.getfield 88, 3) := by decide +kernel
theorem d_X11_holds_31 : decode M_X11_holds.2.1 31 = .ok (.iload_n 1, 1) := by decide +kernel
theorem d_X11_holds_32 : decode M_X11_holds.2.1 32 = .ok (.iaload, 1) := by decide +kernel
theorem d_X11_holds_33 : decode M_X11_holds.2.1 33 = .ok (.if_icmp .ge 53, 3) := by decide +kernel
theorem d_X11_holds_36 : decode M_X11_holds.2.1 36 = .ok (.aload_n 0, 1) := by decide +kernel
theorem d_X11_holds_37 : decode M_X11_holds.2.1 37 = .ok (.getfield 98, 3) := by decide +kernel
theorem d_X11_holds_40 : decode M_X11_holds.2.1 40 = .ok (.iload_n 3, 1) := by decide +kernel
theorem d_X11_holds_41 : decode M_X11_holds.2.1 41 = .ok (.baload, 1) := by decide +kernel
theorem d_X11_holds_42 : decode M_X11_holds.2.1 42 = .ok (.ifCond .eq 9, 3) := by decide +kernel
theorem d_X11_holds_45 : decode M_X11_holds.2.1 45 = .ok (.iload_n 2, 1) := by decide +kernel
theorem d_X11_holds_46 : decode M_X11_holds.2.1 46 = .ok (.ifCond .eq 5, 3) := by decide +kernel
theorem d_X11_holds_49 : decode M_X11_holds.2.1 49 = .ok (.iconst 1, 1) := by decide +kernel
theorem d_X11_holds_50 : decode M_X11_holds.2.1 50 = .ok (.ireturn, 1) := by decide +kernel
theorem d_X11_holds_51 : decode M_X11_holds.2.1 51 = .ok (.aload_n 0, 1) := by decide +kernel
theorem d_X11_holds_52 : decode M_X11_holds.2.1 52 = .ok (.getfield 98, 3) := by decide +kernel
theorem d_X11_holds_55 : decode M_X11_holds.2.1 55 = .ok (.iload_n 3, 1) := by decide +kernel
theorem d_X11_holds_56 : decode M_X11_holds.2.1 56 = .ok (.baload, 1) := by decide +kernel
theorem d_X11_holds_57 : decode M_X11_holds.2.1 57 = .ok (.ifCond .eq 5, 3) := by decide +kernel
theorem d_X11_holds_60 : decode M_X11_holds.2.1 60 = .ok (.iconst 1, 1) := by decide +kernel
theorem d_X11_holds_61 : decode M_X11_holds.2.1 61 = .ok (.istore_n 2, 1) := by decide +kernel
theorem d_X11_holds_62 : decode M_X11_holds.2.1 62 = .ok (.iload_n 2, 1) := by decide +kernel
theorem d_X11_holds_63 : decode M_X11_holds.2.1 63 = .ok (.ifCond .eq 15, 3) := by decide +kernel
theorem d_X11_holds_66 : decode M_X11_holds.2.1 66 = .ok (.aload_n 0, 1) := by decide +kernel
theorem d_X11_holds_67 : decode M_X11_holds.2.1 67 = .ok (.iload_n 3, 1) := by decide +kernel
theorem d_X11_holds_68 : decode M_X11_holds.2.1 68 = .ok (.invokevirtual 325, 3) := by decide +kernel
theorem d_X11_holds_71 : decode M_X11_holds.2.1 71 = .ok (.ifCond .eq 7, 3) := by decide +kernel
theorem d_X11_holds_74 : decode M_X11_holds.2.1 74 = .ok (.iconst 1, 1) := by decide +kernel
theorem d_X11_holds_75 : decode M_X11_holds.2.1 75 = .ok (.goto 4, 3) := by decide +kernel
theorem d_X11_holds_78 : decode M_X11_holds.2.1 78 = .ok (.iconst 0, 1) := by decide +kernel
theorem d_X11_holds_79 : decode M_X11_holds.2.1 79 = .ok (.istore_n 2, 1) := by decide +kernel
theorem d_X11_holds_80 : decode M_X11_holds.2.1 80 = .ok (.iinc 3 1, 3) := by decide +kernel
theorem d_X11_holds_83 : decode M_X11_holds.2.1 83 = .ok (.goto (-57), 3) := by decide +kernel
theorem d_X11_holds_86 : decode M_X11_holds.2.1 86 = .ok (.iload_n 2, 1) := by decide +kernel
theorem d_X11_holds_87 : decode M_X11_holds.2.1 87 = .ok (.ireturn, 1) := by decide +kernel
theorem ce_X11_holds : zw_CeV M_X11_holds 1 := ⟨⟨⟨by decide +kernel, by decide +kernel, by decide +kernel⟩, (zw_mG (List.mem_of_getElem? (i := 1627) (by decide +kernel)) rfl), (zw_mG (List.mem_of_getElem? (i := 108) (by decide +kernel)) rfl), by decide, by decide +kernel⟩, (zw_mG (List.mem_of_getElem? (i := 1626) (by decide +kernel)) rfl), (zw_mG (List.mem_of_getElem? (i := 82) (by decide +kernel)) rfl)⟩
def j_X11_holds_79_26 (v0 : Nat) (v1 : Int32) (v3 : Int32) (s0 : Int32) (I : zI) (R : zR) : Option ((Int32 × Int32 × zI) ⊕ ((Int32 × zI) ⊕ (zI))) :=
  zw_let (v3 + 1 : Int32) fun x21 => (some (.inl (s0, x21, I)))
theorem j_X11_holds_79_26_ok (X : zw_X) (P : Option Value → aS → Prop) (v0 : Nat) (v1 : Int32) (v3 : Int32) (s0 : Int32) (I : zI) (R : zR) (J : zJ) (o : (Int32 × Int32 × zI) ⊕ ((Int32 × zI) ⊕ (zI))) (hf : j_X11_holds_79_26 v0 v1 v3 s0 I R = some o) (hk : (zw_se (fun t => zy_V X M_X11_holds 2 P 26 [.ref v0, .int v1, .int t.1, .int t.2.1] [] (t.2.2, R, J)) (fun r => (zw_se (fun r0 => zy_V X M_X11_holds 2 P 86 [.null, .null, .int r0.1, .null] [] (r0.2, R, J)) (fun t0 => zy_V X M_X11_holds 2 P 49 [.null, .null, .null, .null] [] (t0, R, J)) r)) o)) : zy_V X M_X11_holds 2 P 79 [.ref v0, .int v1, .null, .int v3] [.int s0] (I, R, J) := by
  unfold j_X11_holds_79_26 at hf
  refine zx_istore_n (pc := 79) (x2 := s0) (L2 := [.ref v0, .int v1, .int s0, .int v3]) d_X11_holds_79 (by decide) rfl rfl ?_
  obtain ⟨x21, ex21, hf⟩ := zw_letE hf
  refine zx_iinc (pc := 80) (x2 := x21) (L2 := [.ref v0, .int v1, .int s0, .int x21]) d_X11_holds_80 (by decide) rfl zc_i_1 ex21 rfl ?_
  refine zv_goto (pc := 83) (tg := 26) d_X11_holds_83 (by decide) ?_
  cases hf
  exact zx_weak (zw_leS (zw_leS (zw_leS (zw_leS zw_leZ)))) hk
def j_X11_holds_78_26 (v0 : Nat) (v1 : Int32) (v3 : Int32) (I : zI) (R : zR) : Option ((Int32 × Int32 × zI) ⊕ ((Int32 × zI) ⊕ (zI))) :=
  j_X11_holds_79_26 v0 v1 v3 0 I R
theorem j_X11_holds_78_26_ok (X : zw_X) (P : Option Value → aS → Prop) (v0 : Nat) (v1 : Int32) (v3 : Int32) (I : zI) (R : zR) (J : zJ) (o : (Int32 × Int32 × zI) ⊕ ((Int32 × zI) ⊕ (zI))) (hf : j_X11_holds_78_26 v0 v1 v3 I R = some o) (hk : (zw_se (fun t => zy_V X M_X11_holds 2 P 26 [.ref v0, .int v1, .int t.1, .int t.2.1] [] (t.2.2, R, J)) (fun r => (zw_se (fun r0 => zy_V X M_X11_holds 2 P 86 [.null, .null, .int r0.1, .null] [] (r0.2, R, J)) (fun t0 => zy_V X M_X11_holds 2 P 49 [.null, .null, .null, .null] [] (t0, R, J)) r)) o)) : zy_V X M_X11_holds 2 P 78 [.ref v0, .int v1, .null, .int v3] [] (I, R, J) := by
  unfold j_X11_holds_78_26 at hf
  refine zv_iconst (pc := 78) d_X11_holds_78 zc_i_0 ?_
  exact zx_weak (zw_leS (zw_leS (zw_leN (zw_leS zw_leZ)))) (j_X11_holds_79_26_ok X P v0 v1 v3 0 I R J _ hf hk)
def j_X11_holds_62_26 (v0 : Nat) (v1 : Int32) (v2 : Int32) (v3 : Int32) (I : zI) (R : zR) : Option ((Int32 × Int32 × zI) ⊕ ((Int32 × zI) ⊕ (zI))) :=
  if v2 = 0 then j_X11_holds_78_26 v0 v1 v3 I R else zw_g (zw_gc v0 11) ((f_X11_isTrue v0 v3 I R).bind fun q23 => (if q23.1 = 0 then j_X11_holds_78_26 v0 v1 v3 q23.2 R else j_X11_holds_79_26 v0 v1 v3 1 q23.2 R))
theorem j_X11_holds_62_26_ok (X : zw_X) (P : Option Value → aS → Prop) (v0 : Nat) (v1 : Int32) (v2 : Int32) (v3 : Int32) (I : zI) (R : zR) (J : zJ) (o : (Int32 × Int32 × zI) ⊕ ((Int32 × zI) ⊕ (zI))) (hf : j_X11_holds_62_26 v0 v1 v2 v3 I R = some o) (hk : (zw_se (fun t => zy_V X M_X11_holds 2 P 26 [.ref v0, .int v1, .int t.1, .int t.2.1] [] (t.2.2, R, J)) (fun r => (zw_se (fun r0 => zy_V X M_X11_holds 2 P 86 [.null, .null, .int r0.1, .null] [] (r0.2, R, J)) (fun t0 => zy_V X M_X11_holds 2 P 49 [.null, .null, .null, .null] [] (t0, R, J)) r)) o)) : zy_V X M_X11_holds 2 P 62 [.ref v0, .int v1, .int v2, .int v3] [] (I, R, J) := by
  unfold j_X11_holds_62_26 at hf
  refine zv_iload_n (pc := 62) d_X11_holds_62 rfl ?_
  rcases zw_ifE hf with ⟨c20, hf⟩ | ⟨c20, hf⟩
  · refine zv_if_eq (pc := 63) (tg := 78) d_X11_holds_63 (by decide) (fun _ => ?_) (fun q => absurd c20 q)
    exact zx_weak (zw_leS (zw_leS (zw_leN (zw_leS zw_leZ)))) (j_X11_holds_78_26_ok X P v0 v1 v3 I R J _ hf hk)
  · refine zv_if_eq (pc := 63) (tg := 78) d_X11_holds_63 (by decide) (fun q => absurd q c20) (fun _ => ?_)
    refine zv_aload_n (pc := 66) d_X11_holds_66 rfl ?_
    refine zv_iload_n (pc := 67) d_X11_holds_67 rfl ?_
    obtain ⟨g22, hf⟩ := zw_gcE hf (by decide)
    obtain ⟨q23, hq23, hf⟩ := zw_bdE hf
    refine zx_callV (pc := 68) (As := [.int v3]) (o := v0) (st := []) (d2 := 1) (M2 := M_X11_isTrue) (P2 := (fun r S => r = (some (.int q23.1)) ∧ S = (q23.2, R, J))) d_X11_holds_68 (zw_mG (List.mem_of_getElem? (i := 1628) (by decide +kernel)) rfl) ce_X11_isTrue (zw_RvK g22 rfl rfl) (Nat.le_of_ble_eq_true rfl) rfl (Nat.le_of_ble_eq_true rfl) (by decide) (c_X11_isTrue X v0 v3 I R J _ hq23 ⟨rfl, rfl⟩) ?_
    rintro _ _ ⟨rfl, rfl⟩
    show zy_V X M_X11_holds 2 P (68 + 3) [.ref v0, .int v1, .int v2, .int v3] [.int q23.1] (q23.2, R, J)
    rcases zw_ifE hf with ⟨c24, hf⟩ | ⟨c24, hf⟩
    · refine zv_if_eq (pc := 71) (tg := 78) d_X11_holds_71 (by decide) (fun _ => ?_) (fun q => absurd c24 q)
      exact zx_weak (zw_leS (zw_leS (zw_leN (zw_leS zw_leZ)))) (j_X11_holds_78_26_ok X P v0 v1 v3 q23.2 R J _ hf hk)
    · refine zv_if_eq (pc := 71) (tg := 78) d_X11_holds_71 (by decide) (fun q => absurd q c24) (fun _ => ?_)
      refine zv_iconst (pc := 74) d_X11_holds_74 zc_i_1 ?_
      refine zv_goto (pc := 75) (tg := 79) d_X11_holds_75 (by decide) ?_
      exact zx_weak (zw_leS (zw_leS (zw_leN (zw_leS zw_leZ)))) (j_X11_holds_79_26_ok X P v0 v1 v3 1 q23.2 R J _ hf hk)
def j_X11_holds_51_26 (v0 : Nat) (v1 : Int32) (v2 : Int32) (v3 : Int32) (I : zI) (R : zR) : Option ((Int32 × Int32 × zI) ⊕ ((Int32 × zI) ⊕ (zI))) :=
  zw_g (zw_gc v0 11) (zw_g (zw_gc (R v0 40) 15) (zw_g (zw_in v3 (zw_SH (R v0 40)).2) (if (I (R v0 40) (Int32.toNatClampNeg v3)) = 0 then j_X11_holds_62_26 v0 v1 v2 v3 I R else j_X11_holds_62_26 v0 v1 1 v3 I R)))
theorem j_X11_holds_51_26_ok (X : zw_X) (P : Option Value → aS → Prop) (v0 : Nat) (v1 : Int32) (v2 : Int32) (v3 : Int32) (I : zI) (R : zR) (J : zJ) (o : (Int32 × Int32 × zI) ⊕ ((Int32 × zI) ⊕ (zI))) (hf : j_X11_holds_51_26 v0 v1 v2 v3 I R = some o) (hk : (zw_se (fun t => zy_V X M_X11_holds 2 P 26 [.ref v0, .int v1, .int t.1, .int t.2.1] [] (t.2.2, R, J)) (fun r => (zw_se (fun r0 => zy_V X M_X11_holds 2 P 86 [.null, .null, .int r0.1, .null] [] (r0.2, R, J)) (fun t0 => zy_V X M_X11_holds 2 P 49 [.null, .null, .null, .null] [] (t0, R, J)) r)) o)) : zy_V X M_X11_holds 2 P 51 [.ref v0, .int v1, .int v2, .int v3] [] (I, R, J) := by
  unfold j_X11_holds_51_26 at hf
  refine zv_aload_n (pc := 51) d_X11_holds_51 rfl ?_
  obtain ⟨g16, hf⟩ := zw_gcE hf (by decide)
  obtain ⟨g17, hf⟩ := zw_gcE hf (by decide)
  refine zx_getR (pc := 52) d_X11_holds_52 lk_CutStonesModel_98 (by decide) g16 g17 ?_
  refine zv_iload_n (pc := 55) d_X11_holds_55 rfl ?_
  obtain ⟨i18, hf⟩ := zw_inE hf
  refine zx_zald (pc := 56) d_X11_holds_56 g17 i18 ?_
  rcases zw_ifE hf with ⟨c19, hf⟩ | ⟨c19, hf⟩
  · refine zv_if_eq (pc := 57) (tg := 62) d_X11_holds_57 (by decide) (fun _ => ?_) (fun q => absurd c19 q)
    exact zx_weak (zw_leS (zw_leS (zw_leS (zw_leS zw_leZ)))) (j_X11_holds_62_26_ok X P v0 v1 v2 v3 I R J _ hf hk)
  · refine zv_if_eq (pc := 57) (tg := 62) d_X11_holds_57 (by decide) (fun q => absurd q c19) (fun _ => ?_)
    refine zv_iconst (pc := 60) d_X11_holds_60 zc_i_1 ?_
    refine zx_istore_n (pc := 61) (x2 := 1) (L2 := [.ref v0, .int v1, .int 1, .int v3]) d_X11_holds_61 (by decide) rfl rfl ?_
    exact zx_weak (zw_leS (zw_leS (zw_leS (zw_leS zw_leZ)))) (j_X11_holds_62_26_ok X P v0 v1 1 v3 I R J _ hf hk)
def s_X11_holds_26 (v0 : Nat) (v1 : Int32) (R : zR) (s : Int32 × Int32 × zI) : Option ((Int32 × Int32 × zI) ⊕ ((Int32 × zI) ⊕ (zI))) :=
  zw_g (zw_gc v0 11) (zw_g (zw_gc (R v0 36) 13) (zw_g (zw_in v1 (zw_SH (R v0 36)).2) (if (s.2.2 (R v0 36) (Int32.toNatClampNeg v1)) ≤ s.2.1 then some (.inr (.inl (s.1, s.2.2))) else zw_g (zw_gc (R v0 40) 15) (zw_g (zw_in s.2.1 (zw_SH (R v0 40)).2) (if (s.2.2 (R v0 40) (Int32.toNatClampNeg s.2.1)) = 0 then j_X11_holds_51_26 v0 v1 s.1 s.2.1 s.2.2 R else if s.1 = 0 then j_X11_holds_51_26 v0 v1 s.1 s.2.1 s.2.2 R else some (.inr (.inr s.2.2)))))))
theorem s_X11_holds_26_ok (X : zw_X) (P : Option Value → aS → Prop) (v0 : Nat) (v1 : Int32) (R : zR) (J : zJ) (s : Int32 × Int32 × zI) (o : (Int32 × Int32 × zI) ⊕ ((Int32 × zI) ⊕ (zI))) (hf : s_X11_holds_26 v0 v1 R s = some o) (hk : (zw_se (fun t => zy_V X M_X11_holds 2 P 26 [.ref v0, .int v1, .int t.1, .int t.2.1] [] (t.2.2, R, J)) (fun r => (zw_se (fun r0 => zy_V X M_X11_holds 2 P 86 [.null, .null, .int r0.1, .null] [] (r0.2, R, J)) (fun t0 => zy_V X M_X11_holds 2 P 49 [.null, .null, .null, .null] [] (t0, R, J)) r)) o)) : zy_V X M_X11_holds 2 P 26 [.ref v0, .int v1, .int s.1, .int s.2.1] [] (s.2.2, R, J) := by
  unfold s_X11_holds_26 at hf
  refine zv_iload_n (pc := 26) d_X11_holds_26 rfl ?_
  refine zv_aload_n (pc := 27) d_X11_holds_27 rfl ?_
  obtain ⟨g9, hf⟩ := zw_gcE hf (by decide)
  obtain ⟨g10, hf⟩ := zw_gcE hf (by decide)
  refine zx_getR (pc := 28) d_X11_holds_28 lk_CutStonesModel_88 (by decide) g9 g10 ?_
  refine zv_iload_n (pc := 31) d_X11_holds_31 rfl ?_
  obtain ⟨i11, hf⟩ := zw_inE hf
  refine zx_iald (pc := 32) d_X11_holds_32 g10 i11 ?_
  rcases zw_ifE hf with ⟨c12, hf⟩ | ⟨c12, hf⟩
  · refine zv_icmp_ge (pc := 33) (tg := 86) d_X11_holds_33 (by decide) (fun _ => ?_) (fun q => absurd c12 q)
    cases hf
    exact zx_weak (zw_leN (zw_leN (zw_leS (zw_leN zw_leZ)))) hk
  · refine zv_icmp_ge (pc := 33) (tg := 86) d_X11_holds_33 (by decide) (fun q => absurd q c12) (fun _ => ?_)
    refine zv_aload_n (pc := 36) d_X11_holds_36 rfl ?_
    obtain ⟨g13, hf⟩ := zw_gcE hf (by decide)
    refine zx_getR (pc := 37) d_X11_holds_37 lk_CutStonesModel_98 (by decide) g9 g13 ?_
    refine zv_iload_n (pc := 40) d_X11_holds_40 rfl ?_
    obtain ⟨i14, hf⟩ := zw_inE hf
    refine zx_zald (pc := 41) d_X11_holds_41 g13 i14 ?_
    rcases zw_ifE hf with ⟨c15, hf⟩ | ⟨c15, hf⟩
    · refine zv_if_eq (pc := 42) (tg := 51) d_X11_holds_42 (by decide) (fun _ => ?_) (fun q => absurd c15 q)
      exact zx_weak (zw_leS (zw_leS (zw_leS (zw_leS zw_leZ)))) (j_X11_holds_51_26_ok X P v0 v1 s.1 s.2.1 s.2.2 R J _ hf hk)
    · refine zv_if_eq (pc := 42) (tg := 51) d_X11_holds_42 (by decide) (fun q => absurd q c15) (fun _ => ?_)
      refine zv_iload_n (pc := 45) d_X11_holds_45 rfl ?_
      rcases zw_ifE hf with ⟨c25, hf⟩ | ⟨c25, hf⟩
      · refine zv_if_eq (pc := 46) (tg := 51) d_X11_holds_46 (by decide) (fun _ => ?_) (fun q => absurd c25 q)
        exact zx_weak (zw_leS (zw_leS (zw_leS (zw_leS zw_leZ)))) (j_X11_holds_51_26_ok X P v0 v1 s.1 s.2.1 s.2.2 R J _ hf hk)
      · refine zv_if_eq (pc := 46) (tg := 51) d_X11_holds_46 (by decide) (fun q => absurd q c25) (fun _ => ?_)
        cases hf
        exact zx_weak (zw_leN (zw_leN (zw_leN (zw_leN zw_leZ)))) hk
theorem s_X11_holds_26_lp (X : zw_X) (P : Option Value → aS → Prop) (v0 : Nat) (v1 : Int32) (R : zR) (J : zJ) (n : Nat) (s : Int32 × Int32 × zI) (r : (Int32 × zI) ⊕ (zI)) (h : zw_it (s_X11_holds_26 v0 v1 R) n s = some r) (hq : (zw_se (fun r0 => zy_V X M_X11_holds 2 P 86 [.null, .null, .int r0.1, .null] [] (r0.2, R, J)) (fun t0 => zy_V X M_X11_holds 2 P 49 [.null, .null, .null, .null] [] (t0, R, J)) r)) : zy_V X M_X11_holds 2 P 26 [.ref v0, .int v1, .int s.1, .int s.2.1] [] (s.2.2, R, J) :=
  zw_itE (A := (fun t : Int32 × Int32 × zI => zy_V X M_X11_holds 2 P 26 [.ref v0, .int v1, .int t.1, .int t.2.1] [] (t.2.2, R, J))) (Q := (fun r : (Int32 × zI) ⊕ (zI) => (zw_se (fun r0 => zy_V X M_X11_holds 2 P 86 [.null, .null, .int r0.1, .null] [] (r0.2, R, J)) (fun t0 => zy_V X M_X11_holds 2 P 49 [.null, .null, .null, .null] [] (t0, R, J)) r))) (fun s o h1 h2 => s_X11_holds_26_ok X P v0 v1 R J s o h1 h2) n s r h hq
def f_X11_holds (v0 : Nat) (v1 : Int32) (I : zI) (R : zR) : Option (Int32 × zI) :=
  zw_g (zw_gc v0 11) (zw_g (zw_gc (R v0 35) 13) (zw_g (zw_in v1 (zw_SH (R v0 35)).2) (zw_g (zw_gc (R v0 36) 13) (zw_g (zw_in v1 (zw_SH (R v0 36)).2) (if ¬ (I (R v0 35) (Int32.toNatClampNeg v1)) = (I (R v0 36) (Int32.toNatClampNeg v1)) then zw_g (zw_in v1 (zw_SH (R v0 35)).2) (zw_let ((I (R v0 35) (Int32.toNatClampNeg v1)) : Int32) fun x8 => ((zw_it (s_X11_holds_26 v0 v1 R) 1000000 (0, x8, I)).bind fun q26 => (match q26 with | .inl a27 => (zw_g (zw_b a27.1) (some (a27.1, a27.2))) | .inr a28 => (some (1, a28))))) else some (1, I))))))
theorem c_X11_holds (X : zw_X) (v0 : Nat) (v1 : Int32) (I : zI) (R : zR) (J : zJ) {P : Option Value → aS → Prop} (o : Int32 × zI) (hf : f_X11_holds v0 v1 I R = some o) (hk : P (some (.int o.1)) (o.2, R, J)) : zw_C X M_X11_holds 2 0 0 199 [.ref v0, .int v1] (I, R, J) P := by
  show zy_V X M_X11_holds 2 P 0 [.ref v0, .int v1, .null, .null] [] (I, R, J)
  unfold f_X11_holds at hf
  refine zv_aload_n (pc := 0) d_X11_holds_0 rfl ?_
  obtain ⟨g1, hf⟩ := zw_gcE hf (by decide)
  obtain ⟨g2, hf⟩ := zw_gcE hf (by decide)
  refine zx_getR (pc := 1) d_X11_holds_1 lk_CutStonesModel_85 (by decide) g1 g2 ?_
  refine zv_iload_n (pc := 4) d_X11_holds_4 rfl ?_
  obtain ⟨i3, hf⟩ := zw_inE hf
  refine zx_iald (pc := 5) d_X11_holds_5 g2 i3 ?_
  refine zv_aload_n (pc := 6) d_X11_holds_6 rfl ?_
  obtain ⟨g4, hf⟩ := zw_gcE hf (by decide)
  refine zx_getR (pc := 7) d_X11_holds_7 lk_CutStonesModel_88 (by decide) g1 g4 ?_
  refine zv_iload_n (pc := 10) d_X11_holds_10 rfl ?_
  obtain ⟨i5, hf⟩ := zw_inE hf
  refine zx_iald (pc := 11) d_X11_holds_11 g4 i5 ?_
  rcases zw_ifE hf with ⟨c6, hf⟩ | ⟨c6, hf⟩
  · refine zv_icmp_ne (pc := 12) (tg := 17) d_X11_holds_12 (by decide) (fun _ => ?_) (fun q => absurd q c6)
    refine zv_iconst (pc := 17) d_X11_holds_17 zc_i_0 ?_
    refine zx_istore_n (pc := 18) (x2 := 0) (L2 := [.ref v0, .int v1, .int 0, .null]) d_X11_holds_18 (by decide) rfl rfl ?_
    refine zv_aload_n (pc := 19) d_X11_holds_19 rfl ?_
    refine zx_getR (pc := 20) d_X11_holds_20 lk_CutStonesModel_85 (by decide) g1 g2 ?_
    refine zv_iload_n (pc := 23) d_X11_holds_23 rfl ?_
    obtain ⟨i7, hf⟩ := zw_inE hf
    refine zx_iald (pc := 24) d_X11_holds_24 g2 i7 ?_
    obtain ⟨x8, ex8, hf⟩ := zw_letE hf
    refine zx_istore_n (pc := 25) (x2 := x8) (L2 := [.ref v0, .int v1, .int 0, .int x8]) d_X11_holds_25 (by decide) ex8 rfl ?_
    obtain ⟨q26, hq26, hf⟩ := zw_bdE hf
    refine zx_weak (L' := [.ref v0, .int v1, .int 0, .int x8]) (zw_leS (zw_leS (zw_leS (zw_leS zw_leZ)))) (s_X11_holds_26_lp X P v0 v1 R J _ _ _ hq26 ?_)
    rcases q26 with a27 | a28
    ·
      show zy_V X M_X11_holds 2 P 86 [.null, .null, .int a27.1, .null] [] (a27.2, R, J)
      refine zv_iload_n (pc := 86) d_X11_holds_86 rfl ?_
      obtain ⟨b29, hf⟩ := zw_bE hf
      cases hf
      exact zx_zret (pc := 87) d_X11_holds_87 rfl b29 hk
    ·
      show zy_V X M_X11_holds 2 P 49 [.null, .null, .null, .null] [] (a28, R, J)
      refine zv_iconst (pc := 49) d_X11_holds_49 zc_i_1 ?_
      cases hf
      exact zx_zret (pc := 50) d_X11_holds_50 rfl (Or.inr rfl) hk
  · refine zv_icmp_ne (pc := 12) (tg := 17) d_X11_holds_12 (by decide) (fun q => absurd q c6) (fun _ => ?_)
    refine zv_iconst (pc := 15) d_X11_holds_15 zc_i_1 ?_
    cases hf
    exact zx_zret (pc := 16) d_X11_holds_16 rfl (Or.inr rfl) hk
