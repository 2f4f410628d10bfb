abbrev M_X4_compared : zw_M := (⟨"CutStones$Reckoner", "compared", "(III)Z"⟩, prog_6_method_7_code, 4, (Option.some Jvm.ClassFile.FieldType.boolean))
theorem d_X4_compared_0 : decode M_X4_compared.2.1 0 = .ok (.aload_n 0, 1) := by decide +kernel
theorem d_X4_compared_1 : decode M_X4_compared.2.1 1 = .ok (.getfield 19, 3) := by decide +kernel
theorem d_X4_compared_4 : decode M_X4_compared.2.1 4 = .ok (.ifCond .eq 10, 3) := by decide +kernel
theorem d_X4_compared_7 : decode M_X4_compared.2.1 7 = .ok (.aload_n 0, 1) := by decide +kernel
theorem d_X4_compared_8 : decode M_X4_compared.2.1 8 = .ok (.iconst 0, 1) := by decide +kernel
theorem d_X4_compared_9 : decode M_X4_compared.2.1 9 = .ok (.putfield 19, 3) := by decide +kernel
theorem d_X4_compared_12 : decode M_X4_compared.2.1 12 = .ok (.iconst 0, 1) := by decide +kernel
theorem d_X4_compared_13 : decode M_X4_compared.2.1 13 = .ok (.ireturn, 1) := by decide +kernel
theorem d_X4_compared_14 : decode M_X4_compared.2.1 14 = .ok (.iload_n 1, 1) := by decide +kernel
theorem d_X4_compared_15 : decode M_X4_compared.2.1 15 = .ok (.tableswitch 58 14 16 #[25, 36, 47], 25) := by decide +kernel
theorem d_X4_compared_40 : decode M_X4_compared.2.1 40 = .ok (.iload_n 2, 1) := by decide +kernel
theorem d_X4_compared_41 : decode M_X4_compared.2.1 41 = .ok (.iload_n 3, 1) := by decide +kernel
theorem d_X4_compared_42 : decode M_X4_compared.2.1 42 = .ok (.if_icmp .ge 7, 3) := by decide +kernel
theorem d_X4_compared_45 : decode M_X4_compared.2.1 45 = .ok (.iconst 1, 1) := by decide +kernel
theorem d_X4_compared_46 : decode M_X4_compared.2.1 46 = .ok (.goto 4, 3) := by decide +kernel
theorem d_X4_compared_49 : decode M_X4_compared.2.1 49 = .ok (.iconst 0, 1) := by decide +kernel
theorem d_X4_compared_50 : decode M_X4_compared.2.1 50 = .ok (.ireturn, 1) := by decide +kernel
theorem d_X4_compared_51 : decode M_X4_compared.2.1 51 = .ok (.iload_n 2, 1) := by decide +kernel
theorem d_X4_compared_52 : decode M_X4_compared.2.1 52 = .ok (.iload_n 3, 1) := by decide +kernel
theorem d_X4_compared_53 : decode M_X4_compared.2.1 53 = .ok (.if_icmp .gt 7, 3) := by decide +kernel
theorem d_X4_compared_56 : decode M_X4_compared.2.1 56 = .ok (.iconst 1, 1) := by decide +kernel
theorem d_X4_compared_57 : decode M_X4_compared.2.1 57 = .ok (.goto 4, 3) := by decide +kernel
theorem d_X4_compared_60 : decode M_X4_compared.2.1 60 = .ok (.iconst 0, 1) := by decide +kernel
theorem d_X4_compared_61 : decode M_X4_compared.2.1 61 = .ok (.ireturn, 1) := by decide +kernel
theorem d_X4_compared_62 : decode M_X4_compared.2.1 62 = .ok (.iload_n 2, 1) := by decide +kernel
theorem d_X4_compared_63 : decode M_X4_compared.2.1 63 = .ok (.iload_n 3, 1) := by decide +kernel
theorem d_X4_compared_64 : decode M_X4_compared.2.1 64 = .ok (.if_icmp .ne 7, 3) := by decide +kernel
theorem d_X4_compared_67 : decode M_X4_compared.2.1 67 = .ok (.iconst 1, 1) := by decide +kernel
theorem d_X4_compared_68 : decode M_X4_compared.2.1 68 = .ok (.goto 4, 3) := by decide +kernel
theorem d_X4_compared_71 : decode M_X4_compared.2.1 71 = .ok (.iconst 0, 1) := by decide +kernel
theorem d_X4_compared_72 : decode M_X4_compared.2.1 72 = .ok (.ireturn, 1) := by decide +kernel
theorem d_X4_compared_73 : decode M_X4_compared.2.1 73 = .ok (.iload_n 2, 1) := by decide +kernel
theorem d_X4_compared_74 : decode M_X4_compared.2.1 74 = .ok (.iload_n 3, 1) := by decide +kernel
theorem d_X4_compared_75 : decode M_X4_compared.2.1 75 = .ok (.if_icmp .eq 7, 3) := by decide +kernel
theorem d_X4_compared_78 : decode M_X4_compared.2.1 78 = .ok (.iconst 1, 1) := by decide +kernel
theorem d_X4_compared_79 : decode M_X4_compared.2.1 79 = .ok (.goto 4, 3) := by decide +kernel
theorem d_X4_compared_82 : decode M_X4_compared.2.1 82 = .ok (.iconst 0, 1) := by decide +kernel
theorem d_X4_compared_83 : decode M_X4_compared.2.1 83 = .ok (.ireturn, 1) := by decide +kernel
theorem ce_X4_compared : zw_CeV M_X4_compared 3 := ⟨⟨⟨by decide +kernel, by decide +kernel, by decide +kernel⟩, (zw_mG (List.mem_of_getElem? (i := 1014) (by decide +kernel)) rfl), (zw_mG (List.mem_of_getElem? (i := 105) (by decide +kernel)) rfl), by decide, by decide +kernel⟩, (zw_mG (List.mem_of_getElem? (i := 1013) (by decide +kernel)) rfl), (zw_mG (List.mem_of_getElem? (i := 39) (by decide +kernel)) rfl)⟩
def f_X4_compared (v0 : Nat) (v1 : Int32) (v2 : Int32) (v3 : Int32) (I : zI) : Option (Int32 × zI) :=
  zw_g (zw_gc v0 4) (if (I v0 2) = 0 then if v1 = 14 then if v3 ≤ v2 then some (0, I) else some (1, I) else (if v1 = 15 then if v3 < v2 then some (0, I) else some (1, I) else (if v1 = 16 then if ¬ v2 = v3 then some (0, I) else some (1, I) else (if v2 = v3 then some (0, I) else some (1, I)))) else zw_let (zw_u I v0 2 0 : zI) fun I10 => (some (0, I10)))
theorem c_X4_compared (X : zw_X) (v0 : Nat) (v1 : Int32) (v2 : Int32) (v3 : Int32) (I : zI) (R : zR) (J : zJ) {P : Option Value → aS → Prop} (o : Int32 × zI) (hf : f_X4_compared v0 v1 v2 v3 I = some o) (hk : P (some (.int o.1)) (o.2, R, J)) : zw_C X M_X4_compared 0 0 0 199 [.ref v0, .int v1, .int v2, .int v3] (I, R, J) P := by
  show zy_V X M_X4_compared 0 P 0 [.ref v0, .int v1, .int v2, .int v3] [] (I, R, J)
  unfold f_X4_compared at hf
  refine zv_aload_n (pc := 0) d_X4_compared_0 rfl ?_
  obtain ⟨g1, hf⟩ := zw_gcE hf (by decide)
  refine zx_getI (pc := 1) d_X4_compared_1 lk_CutStones_Reckoner_19 (by decide) g1 ?_
  rcases zw_ifE hf with ⟨c2, hf⟩ | ⟨c2, hf⟩
  · refine zv_if_eq (pc := 4) (tg := 14) d_X4_compared_4 (by decide) (fun _ => ?_) (fun q => absurd c2 q)
    refine zv_iload_n (pc := 14) d_X4_compared_14 rfl ?_
    rcases zw_ifE hf with ⟨c3, hf⟩ | ⟨c3, hf⟩
    · refine zx_tsIn (pc := 15) (tg := 40) (z := 25) d_X4_compared_15 (by rw [c3]; decide +kernel) (by rw [c3]; decide +kernel) (by rw [c3]; decide +kernel) (by decide) ?_
      refine zv_iload_n (pc := 40) d_X4_compared_40 rfl ?_
      refine zv_iload_n (pc := 41) d_X4_compared_41 rfl ?_
      rcases zw_ifE hf with ⟨c4, hf⟩ | ⟨c4, hf⟩
      · refine zv_icmp_ge (pc := 42) (tg := 49) d_X4_compared_42 (by decide) (fun _ => ?_) (fun q => absurd c4 q)
        refine zv_iconst (pc := 49) d_X4_compared_49 zc_i_0 ?_
        cases hf
        exact zx_zret (pc := 50) d_X4_compared_50 rfl (Or.inl rfl) hk
      · refine zv_icmp_ge (pc := 42) (tg := 49) d_X4_compared_42 (by decide) (fun q => absurd q c4) (fun _ => ?_)
        refine zv_iconst (pc := 45) d_X4_compared_45 zc_i_1 ?_
        refine zv_goto (pc := 46) (tg := 50) d_X4_compared_46 (by decide) ?_
        cases hf
        exact zx_zret (pc := 50) d_X4_compared_50 rfl (Or.inr rfl) hk
    ·
      rcases zw_ifE hf with ⟨c5, hf⟩ | ⟨c5, hf⟩
      · refine zx_tsIn (pc := 15) (tg := 51) (z := 36) d_X4_compared_15 (by rw [c5]; decide +kernel) (by rw [c5]; decide +kernel) (by rw [c5]; decide +kernel) (by decide) ?_
        refine zv_iload_n (pc := 51) d_X4_compared_51 rfl ?_
        refine zv_iload_n (pc := 52) d_X4_compared_52 rfl ?_
        rcases zw_ifE hf with ⟨c6, hf⟩ | ⟨c6, hf⟩
        · refine zv_icmp_gt (pc := 53) (tg := 60) d_X4_compared_53 (by decide) (fun _ => ?_) (fun q => absurd c6 q)
          refine zv_iconst (pc := 60) d_X4_compared_60 zc_i_0 ?_
          cases hf
          exact zx_zret (pc := 61) d_X4_compared_61 rfl (Or.inl rfl) hk
        · refine zv_icmp_gt (pc := 53) (tg := 60) d_X4_compared_53 (by decide) (fun q => absurd q c6) (fun _ => ?_)
          refine zv_iconst (pc := 56) d_X4_compared_56 zc_i_1 ?_
          refine zv_goto (pc := 57) (tg := 61) d_X4_compared_57 (by decide) ?_
          cases hf
          exact zx_zret (pc := 61) d_X4_compared_61 rfl (Or.inr rfl) hk
      ·
        rcases zw_ifE hf with ⟨c7, hf⟩ | ⟨c7, hf⟩
        · refine zx_tsIn (pc := 15) (tg := 62) (z := 47) d_X4_compared_15 (by rw [c7]; decide +kernel) (by rw [c7]; decide +kernel) (by rw [c7]; decide +kernel) (by decide) ?_
          refine zv_iload_n (pc := 62) d_X4_compared_62 rfl ?_
          refine zv_iload_n (pc := 63) d_X4_compared_63 rfl ?_
          rcases zw_ifE hf with ⟨c8, hf⟩ | ⟨c8, hf⟩
          · refine zv_icmp_ne (pc := 64) (tg := 71) d_X4_compared_64 (by decide) (fun _ => ?_) (fun q => absurd q c8)
            refine zv_iconst (pc := 71) d_X4_compared_71 zc_i_0 ?_
            cases hf
            exact zx_zret (pc := 72) d_X4_compared_72 rfl (Or.inl rfl) hk
          · refine zv_icmp_ne (pc := 64) (tg := 71) d_X4_compared_64 (by decide) (fun q => absurd q c8) (fun _ => ?_)
            refine zv_iconst (pc := 67) d_X4_compared_67 zc_i_1 ?_
            refine zv_goto (pc := 68) (tg := 72) d_X4_compared_68 (by decide) ?_
            cases hf
            exact zx_zret (pc := 72) d_X4_compared_72 rfl (Or.inr rfl) hk
        ·
          refine zx_tsOut (pc := 15) (tg := 73) d_X4_compared_15 (by have c3 := zw_neI c3 (z := 14) (by decide +kernel); have c5 := zw_neI c5 (z := 15) (by decide +kernel); have c7 := zw_neI c7 (z := 16) (by decide +kernel); omega) (by decide) ?_
          refine zv_iload_n (pc := 73) d_X4_compared_73 rfl ?_
          refine zv_iload_n (pc := 74) d_X4_compared_74 rfl ?_
          rcases zw_ifE hf with ⟨c9, hf⟩ | ⟨c9, hf⟩
          · refine zv_icmp_eq (pc := 75) (tg := 82) d_X4_compared_75 (by decide) (fun _ => ?_) (fun q => absurd c9 q)
            refine zv_iconst (pc := 82) d_X4_compared_82 zc_i_0 ?_
            cases hf
            exact zx_zret (pc := 83) d_X4_compared_83 rfl (Or.inl rfl) hk
          · refine zv_icmp_eq (pc := 75) (tg := 82) d_X4_compared_75 (by decide) (fun q => absurd q c9) (fun _ => ?_)
            refine zv_iconst (pc := 78) d_X4_compared_78 zc_i_1 ?_
            refine zv_goto (pc := 79) (tg := 83) d_X4_compared_79 (by decide) ?_
            cases hf
            exact zx_zret (pc := 83) d_X4_compared_83 rfl (Or.inr rfl) hk
  · refine zv_if_eq (pc := 4) (tg := 14) d_X4_compared_4 (by decide) (fun q => absurd q c2) (fun _ => ?_)
    refine zv_aload_n (pc := 7) d_X4_compared_7 rfl ?_
    refine zv_iconst (pc := 8) d_X4_compared_8 zc_i_0 ?_
    obtain ⟨I10, eI10, hf⟩ := zw_letE hf
    refine zx_putZ (pc := 9) (I2 := I10) d_X4_compared_9 lk_CutStones_Reckoner_19 rfl (Or.inl rfl) g1 eI10 ?_
    refine zv_iconst (pc := 12) d_X4_compared_12 zc_i_0 ?_
    cases hf
    exact zx_zret (pc := 13) d_X4_compared_13 rfl (Or.inl rfl) hk
abbrev M_X4_divided : zw_M := (⟨"CutStones$Reckoner", "divided", "(II)I"⟩, prog_6_method_6_code, 3, (Option.some Jvm.ClassFile.FieldType.int))
theorem d_X4_divided_0 : decode M_X4_divided.2.1 0 = .ok (.iload_n 2, 1) := by decide +kernel
theorem d_X4_divided_1 : decode M_X4_divided.2.1 1 = .ok (.ifCond .ne 10, 3) := by decide +kernel
theorem d_X4_divided_4 : decode M_X4_divided.2.1 4 = .ok (.aload_n 0, 1) := by decide +kernel
theorem d_X4_divided_5 : decode M_X4_divided.2.1 5 = .ok (.iconst 1, 1) := by decide +kernel
theorem d_X4_divided_6 : decode M_X4_divided.2.1 6 = .ok (.putfield 19, 3) := by decide +kernel
theorem d_X4_divided_9 : decode M_X4_divided.2.1 9 = .ok (.iconst 0, 1) := by decide +kernel
theorem d_X4_divided_10 : decode M_X4_divided.2.1 10 = .ok (.ireturn, 1) := by decide +kernel
theorem d_X4_divided_11 : decode M_X4_divided.2.1 11 = .ok (.iload_n 1, 1) := by decide +kernel
theorem d_X4_divided_12 : decode M_X4_divided.2.1 12 = .ok (.iload_n 2, 1) := by decide +kernel
theorem d_X4_divided_13 : decode M_X4_divided.2.1 13 = .ok (.idiv, 1) := by decide +kernel
theorem d_X4_divided_14 : decode M_X4_divided.2.1 14 = .ok (.ireturn, 1) := by decide +kernel
theorem ce_X4_divided : zw_CeV M_X4_divided 2 := ⟨⟨⟨by decide +kernel, by decide +kernel, by decide +kernel⟩, (zw_mG (List.mem_of_getElem? (i := 1010) (by decide +kernel)) rfl), (zw_mG (List.mem_of_getElem? (i := 105) (by decide +kernel)) rfl), by decide, by decide +kernel⟩, (zw_mG (List.mem_of_getElem? (i := 1009) (by decide +kernel)) rfl), (zw_mG (List.mem_of_getElem? (i := 38) (by decide +kernel)) rfl)⟩
def f_X4_divided (v0 : Nat) (v1 : Int32) (v2 : Int32) (I : zI) : Option (Int32 × zI) :=
  if ¬ v2 = 0 then zw_g (zw_n0 v2) (some ((v1 / v2), I)) else zw_g (zw_gc v0 4) (zw_let (zw_u I v0 2 1 : zI) fun I4 => (some (0, I4)))
theorem c_X4_divided (X : zw_X) (v0 : Nat) (v1 : Int32) (v2 : Int32) (I : zI) (R : zR) (J : zJ) {P : Option Value → aS → Prop} (o : Int32 × zI) (hf : f_X4_divided v0 v1 v2 I = some o) (hk : P (some (.int o.1)) (o.2, R, J)) : zw_C X M_X4_divided 0 0 0 199 [.ref v0, .int v1, .int v2] (I, R, J) P := by
  show zy_V X M_X4_divided 0 P 0 [.ref v0, .int v1, .int v2] [] (I, R, J)
  unfold f_X4_divided at hf
  refine zv_iload_n (pc := 0) d_X4_divided_0 rfl ?_
  rcases zw_ifE hf with ⟨c1, hf⟩ | ⟨c1, hf⟩
  · refine zv_if_ne (pc := 1) (tg := 11) d_X4_divided_1 (by decide) (fun _ => ?_) (fun q => absurd q c1)
    refine zv_iload_n (pc := 11) d_X4_divided_11 rfl ?_
    refine zv_iload_n (pc := 12) d_X4_divided_12 rfl ?_
    obtain ⟨n2, hf⟩ := zw_n0E hf
    refine zv_idiv (pc := 13) d_X4_divided_13 n2 ?_
    cases hf
    exact zx_iret (pc := 14) d_X4_divided_14 rfl hk
  · refine zv_if_ne (pc := 1) (tg := 11) d_X4_divided_1 (by decide) (fun q => absurd q c1) (fun _ => ?_)
    refine zv_aload_n (pc := 4) d_X4_divided_4 rfl ?_
    refine zv_iconst (pc := 5) d_X4_divided_5 zc_i_1 ?_
    obtain ⟨g3, hf⟩ := zw_gcE hf (by decide)
    obtain ⟨I4, eI4, hf⟩ := zw_letE hf
    refine zx_putZ (pc := 6) (I2 := I4) d_X4_divided_6 lk_CutStones_Reckoner_19 rfl (Or.inr rfl) g3 eI4 ?_
    refine zv_iconst (pc := 9) d_X4_divided_9 zc_i_0 ?_
    cases hf
    exact zx_iret (pc := 10) d_X4_divided_10 rfl hk
abbrev M_X4_pop : zw_M := (⟨"CutStones$Reckoner", "pop", "()I"⟩, prog_6_method_9_code, 1, (Option.some Jvm.ClassFile.FieldType.int))
theorem d_X4_pop_0 : decode M_X4_pop.2.1 0 = .ok (.aload_n 0, 1) := by decide +kernel
theorem d_X4_pop_1 : decode M_X4_pop.2.1 1 = .ok (.getfield 15, 3) := by decide +kernel
theorem d_X4_pop_4 : decode M_X4_pop.2.1 4 = .ok (.ifCond .gt 5, 3) := by decide +kernel
theorem d_X4_pop_7 : decode M_X4_pop.2.1 7 = .ok (.iconst 0, 1) := by decide +kernel
theorem d_X4_pop_8 : decode M_X4_pop.2.1 8 = .ok (.ireturn, 1) := by decide +kernel
theorem d_X4_pop_9 : decode M_X4_pop.2.1 9 = .ok (.aload_n 0, 1) := by decide +kernel
theorem d_X4_pop_10 : decode M_X4_pop.2.1 10 = .ok (.dup, 1) := by decide +kernel
theorem d_X4_pop_11 : decode M_X4_pop.2.1 11 = .ok (.getfield 15, 3) := by decide +kernel
theorem d_X4_pop_14 : decode M_X4_pop.2.1 14 = .ok (.iconst 1, 1) := by decide +kernel
theorem d_X4_pop_15 : decode M_X4_pop.2.1 15 = .ok (.isub, 1) := by decide +kernel
theorem d_X4_pop_16 : decode M_X4_pop.2.1 16 = .ok (.putfield 15, 3) := by decide +kernel
theorem d_X4_pop_19 : decode M_X4_pop.2.1 19 = .ok (.aload_n 0, 1) := by decide +kernel
theorem d_X4_pop_20 : decode M_X4_pop.2.1 20 = .ok (.getfield 9, 3) := by decide +kernel
theorem d_X4_pop_23 : decode M_X4_pop.2.1 23 = .ok (.aload_n 0, 1) := by decide +kernel
theorem d_X4_pop_24 : decode M_X4_pop.2.1 24 = .ok (.getfield 15, 3) := by decide +kernel
theorem d_X4_pop_27 : decode M_X4_pop.2.1 27 = .ok (.iaload, 1) := by decide +kernel
theorem d_X4_pop_28 : decode M_X4_pop.2.1 28 = .ok (.ireturn, 1) := by decide +kernel
theorem ce_X4_pop : zw_CeV M_X4_pop 0 := ⟨⟨⟨by decide +kernel, by decide +kernel, by decide +kernel⟩, (zw_mG (List.mem_of_getElem? (i := 1002) (by decide +kernel)) rfl), (zw_mG (List.mem_of_getElem? (i := 105) (by decide +kernel)) rfl), by decide, by decide +kernel⟩, (zw_mG (List.mem_of_getElem? (i := 1001) (by decide +kernel)) rfl), (zw_mG (List.mem_of_getElem? (i := 36) (by decide +kernel)) rfl)⟩
def f_X4_pop (v0 : Nat) (I : zI) (R : zR) : Option (Int32 × zI) :=
  zw_g (zw_gc v0 4) (if 0 < (I v0 1) then zw_let (zw_u I v0 1 ((I v0 1) - 1) : zI) fun I3 => (zw_g (zw_gc (R v0 0) 13) (zw_g (zw_in (I3 v0 1) (zw_SH (R v0 0)).2) (some ((I3 (R v0 0) (Int32.toNatClampNeg (I3 v0 1))), I3)))) else some (0, I))
theorem c_X4_pop (X : zw_X) (v0 : Nat) (I : zI) (R : zR) (J : zJ) {P : Option Value → aS → Prop} (o : Int32 × zI) (hf : f_X4_pop v0 I R = some o) (hk : P (some (.int o.1)) (o.2, R, J)) : zw_C X M_X4_pop 0 0 0 199 [.ref v0] (I, R, J) P := by
  show zy_V X M_X4_pop 0 P 0 [.ref v0] [] (I, R, J)
  unfold f_X4_pop at hf
  refine zv_aload_n (pc := 0) d_X4_pop_0 rfl ?_
  obtain ⟨g1, hf⟩ := zw_gcE hf (by decide)
  refine zx_getI (pc := 1) d_X4_pop_1 lk_CutStones_Reckoner_15 (by decide) g1 ?_
  rcases zw_ifE hf with ⟨c2, hf⟩ | ⟨c2, hf⟩
  · refine zv_if_gt (pc := 4) (tg := 9) d_X4_pop_4 (by decide) (fun _ => ?_) (fun q => absurd c2 q)
    refine zv_aload_n (pc := 9) d_X4_pop_9 rfl ?_
    refine zv_dup (pc := 10) d_X4_pop_10 rfl ?_
    refine zx_getI (pc := 11) d_X4_pop_11 lk_CutStones_Reckoner_15 (by decide) g1 ?_
    refine zv_iconst (pc := 14) d_X4_pop_14 zc_i_1 ?_
    refine zv_isub (pc := 15) d_X4_pop_15 ?_
    obtain ⟨I3, eI3, hf⟩ := zw_letE hf
    refine zx_putI (pc := 16) (I2 := I3) d_X4_pop_16 lk_CutStones_Reckoner_15 rfl g1 eI3 ?_
    refine zv_aload_n (pc := 19) d_X4_pop_19 rfl ?_
    obtain ⟨g4, hf⟩ := zw_gcE hf (by decide)
    refine zx_getR (pc := 20) d_X4_pop_20 lk_CutStones_Reckoner_9 (by decide) g1 g4 ?_
    refine zv_aload_n (pc := 23) d_X4_pop_23 rfl ?_
    refine zx_getI (pc := 24) d_X4_pop_24 lk_CutStones_Reckoner_15 (by decide) g1 ?_
    obtain ⟨i5, hf⟩ := zw_inE hf
    refine zx_iald (pc := 27) d_X4_pop_27 g4 i5 ?_
    cases hf
    exact zx_iret (pc := 28) d_X4_pop_28 rfl hk
  · refine zv_if_gt (pc := 4) (tg := 9) d_X4_pop_4 (by decide) (fun q => absurd q c2) (fun _ => ?_)
    refine zv_iconst (pc := 7) d_X4_pop_7 zc_i_0 ?_
    cases hf
    exact zx_iret (pc := 8) d_X4_pop_8 rfl hk
abbrev M_X4_push : zw_M := (⟨"CutStones$Reckoner", "push", "(I)V"⟩, prog_6_method_8_code, 2, (Option.none : Option Jvm.ClassFile.FieldType))
theorem d_X4_push_0 : decode M_X4_push.2.1 0 = .ok (.aload_n 0, 1) := by decide +kernel
theorem d_X4_push_1 : decode M_X4_push.2.1 1 = .ok (.getfield 15, 3) := by decide +kernel
theorem d_X4_push_4 : decode M_X4_push.2.1 4 = .ok (.aload_n 0, 1) := by decide +kernel
theorem d_X4_push_5 : decode M_X4_push.2.1 5 = .ok (.getfield 9, 3) := by decide +kernel
theorem d_X4_push_8 : decode M_X4_push.2.1 8 = .ok (.arraylength, 1) := by decide +kernel
theorem d_X4_push_9 : decode M_X4_push.2.1 9 = .ok (.if_icmp .ge 23, 3) := by decide +kernel
theorem d_X4_push_12 : decode M_X4_push.2.1 12 = .ok (.aload_n 0, 1) := by decide +kernel
theorem d_X4_push_13 : decode M_X4_push.2.1 13 = .ok (.getfield 9, 3) := by decide +kernel
theorem d_X4_push_16 : decode M_X4_push.2.1 16 = .ok (.aload_n 0, 1) := by decide +kernel
theorem d_X4_push_17 : decode M_X4_push.2.1 17 = .ok (.getfield 15, 3) := by decide +kernel
theorem d_X4_push_20 : decode M_X4_push.2.1 20 = .ok (.iload_n 1, 1) := by decide +kernel
theorem d_X4_push_21 : decode M_X4_push.2.1 21 = .ok (.iastore, 1) := by decide +kernel
theorem d_X4_push_22 : decode M_X4_push.2.1 22 = .ok (.aload_n 0, 1) := by decide +kernel
theorem d_X4_push_23 : decode M_X4_push.2.1 23 = .ok (.dup, 1) := by decide +kernel
theorem d_X4_push_24 : decode M_X4_push.2.1 24 = .ok (.getfield 15, 3) := by decide +kernel
theorem d_X4_push_27 : decode M_X4_push.2.1 27 = .ok (.iconst 1, 1) := by decide +kernel
theorem d_X4_push_28 : decode M_X4_push.2.1 28 = .ok (.iadd, 1) := by decide +kernel
theorem d_X4_push_29 : decode M_X4_push.2.1 29 = .ok (.putfield 15, 3) := by decide +kernel
theorem d_X4_push_32 : decode M_X4_push.2.1 32 = .ok (.return_, 1) := by decide +kernel
theorem ce_X4_push : zw_CeV M_X4_push 1 := ⟨⟨⟨by decide +kernel, by decide +kernel, by decide +kernel⟩, (zw_mG (List.mem_of_getElem? (i := 994) (by decide +kernel)) rfl), (zw_mG (List.mem_of_getElem? (i := 105) (by decide +kernel)) rfl), by decide, by decide +kernel⟩, (zw_mG (List.mem_of_getElem? (i := 993) (by decide +kernel)) rfl), (zw_mG (List.mem_of_getElem? (i := 35) (by decide +kernel)) rfl)⟩
def f_X4_push (v0 : Nat) (v1 : Int32) (I : zI) (R : zR) : Option (zI) :=
  zw_g (zw_gc v0 4) (zw_g (zw_gc (R v0 0) 13) (if (Int32.ofNat (zw_SH (R v0 0)).2) ≤ (I v0 1) then some I else zw_g (zw_in (I v0 1) (zw_SH (R v0 0)).2) (zw_let (zw_u I (R v0 0) (Int32.toNatClampNeg (I v0 1)) v1 : zI) fun I5 => (zw_let (zw_u I5 v0 1 ((I5 v0 1) + 1) : zI) fun I6 => (some I6)))))
theorem c_X4_push (X : zw_X) (v0 : Nat) (v1 : Int32) (I : zI) (R : zR) (J : zJ) {P : Option Value → aS → Prop} (o : zI) (hf : f_X4_push v0 v1 I R = some o) (hk : P none (o, R, J)) : zw_C X M_X4_push 0 0 0 199 [.ref v0, .int v1] (I, R, J) P := by
  show zy_V X M_X4_push 0 P 0 [.ref v0, .int v1] [] (I, R, J)
  unfold f_X4_push at hf
  refine zv_aload_n (pc := 0) d_X4_push_0 rfl ?_
  obtain ⟨g1, hf⟩ := zw_gcE hf (by decide)
  refine zx_getI (pc := 1) d_X4_push_1 lk_CutStones_Reckoner_15 (by decide) g1 ?_
  refine zv_aload_n (pc := 4) d_X4_push_4 rfl ?_
  obtain ⟨g2, hf⟩ := zw_gcE hf (by decide)
  refine zx_getR (pc := 5) d_X4_push_5 lk_CutStones_Reckoner_9 (by decide) g1 g2 ?_
  refine zx_alen (pc := 8) d_X4_push_8 g2 ?_
  rcases zw_ifE hf with ⟨c3, hf⟩ | ⟨c3, hf⟩
  · refine zv_icmp_ge (pc := 9) (tg := 32) d_X4_push_9 (by decide) (fun _ => ?_) (fun q => absurd c3 q)
    cases hf
    exact zx_vret (pc := 32) d_X4_push_32 rfl hk
  · refine zv_icmp_ge (pc := 9) (tg := 32) d_X4_push_9 (by decide) (fun q => absurd q c3) (fun _ => ?_)
    refine zv_aload_n (pc := 12) d_X4_push_12 rfl ?_
    refine zx_getR (pc := 13) d_X4_push_13 lk_CutStones_Reckoner_9 (by decide) g1 g2 ?_
    refine zv_aload_n (pc := 16) d_X4_push_16 rfl ?_
    refine zx_getI (pc := 17) d_X4_push_17 lk_CutStones_Reckoner_15 (by decide) g1 ?_
    refine zv_iload_n (pc := 20) d_X4_push_20 rfl ?_
    obtain ⟨i4, hf⟩ := zw_inE hf
    obtain ⟨I5, eI5, hf⟩ := zw_letE hf
    refine zx_iast (pc := 21) (I2 := I5) d_X4_push_21 g2 i4 eI5 ?_
    refine zv_aload_n (pc := 22) d_X4_push_22 rfl ?_
    refine zv_dup (pc := 23) d_X4_push_23 rfl ?_
    refine zx_getI (pc := 24) d_X4_push_24 lk_CutStones_Reckoner_15 (by decide) g1 ?_
    refine zv_iconst (pc := 27) d_X4_push_27 zc_i_1 ?_
    refine zv_iadd (pc := 28) d_X4_push_28 ?_
    obtain ⟨I6, eI6, hf⟩ := zw_letE hf
    refine zx_putI (pc := 29) (I2 := I6) d_X4_push_29 lk_CutStones_Reckoner_15 rfl g1 eI6 ?_
    cases hf
    exact zx_vret (pc := 32) d_X4_push_32 rfl hk
abbrev M_X5_begin : zw_M := (⟨"CutStones$Rule", "begin", "(I)V"⟩, prog_7_method_2_code, 2, (Option.none : Option Jvm.ClassFile.FieldType))
theorem d_X5_begin_0 : decode M_X5_begin.2.1 0 = .ok (.aload_n 0, 1) := by decide +kernel
theorem d_X5_begin_1 : decode M_X5_begin.2.1 1 = .ok (.iload_n 1, 1) := by decide +kernel
theorem d_X5_begin_2 : decode M_X5_begin.2.1 2 = .ok (.putfield 7, 3) := by decide +kernel
theorem d_X5_begin_5 : decode M_X5_begin.2.1 5 = .ok (.aload_n 0, 1) := by decide +kernel
theorem d_X5_begin_6 : decode M_X5_begin.2.1 6 = .ok (.iload_n 1, 1) := by decide +kernel
theorem d_X5_begin_7 : decode M_X5_begin.2.1 7 = .ok (.putfield 13, 3) := by decide +kernel
theorem d_X5_begin_10 : decode M_X5_begin.2.1 10 = .ok (.aload_n 0, 1) := by decide +kernel
theorem d_X5_begin_11 : decode M_X5_begin.2.1 11 = .ok (.iload_n 1, 1) := by decide +kernel
theorem d_X5_begin_12 : decode M_X5_begin.2.1 12 = .ok (.putfield 16, 3) := by decide +kernel
theorem d_X5_begin_15 : decode M_X5_begin.2.1 15 = .ok (.return_, 1) := by decide +kernel
theorem ce_X5_begin : zw_CeV M_X5_begin 1 := ⟨⟨⟨by decide +kernel, by decide +kernel, by decide +kernel⟩, (zw_mG (List.mem_of_getElem? (i := 780) (by decide +kernel)) rfl), (zw_mG (List.mem_of_getElem? (i := 102) (by decide +kernel)) rfl), by decide, by decide +kernel⟩, (zw_mG (List.mem_of_getElem? (i := 778) (by decide +kernel)) rfl), (zw_mG (List.mem_of_getElem? (i := 779) (by decide +kernel)) rfl)⟩
def f_X5_begin (v0 : Nat) (v1 : Int32) (I : zI) : Option (zI) :=
  zw_g (zw_gc v0 5) (zw_let (zw_u I v0 0 v1 : zI) fun I2 => (zw_let (zw_u I2 v0 1 v1 : zI) fun I3 => (zw_let (zw_u I3 v0 2 v1 : zI) fun I4 => (some I4))))
theorem c_X5_begin (X : zw_X) (v0 : Nat) (v1 : Int32) (I : zI) (R : zR) (J : zJ) {P : Option Value → aS → Prop} (o : zI) (hf : f_X5_begin v0 v1 I = some o) (hk : P none (o, R, J)) : zw_C X M_X5_begin 0 0 0 199 [.ref v0, .int v1] (I, R, J) P := by
  show zy_V X M_X5_begin 0 P 0 [.ref v0, .int v1] [] (I, R, J)
  unfold f_X5_begin at hf
  refine zv_aload_n (pc := 0) d_X5_begin_0 rfl ?_
  refine zv_iload_n (pc := 1) d_X5_begin_1 rfl ?_
  obtain ⟨g1, hf⟩ := zw_gcE hf (by decide)
  obtain ⟨I2, eI2, hf⟩ := zw_letE hf
  refine zx_putI (pc := 2) (I2 := I2) d_X5_begin_2 lk_CutStones_Rule_7 rfl g1 eI2 ?_
  refine zv_aload_n (pc := 5) d_X5_begin_5 rfl ?_
  refine zv_iload_n (pc := 6) d_X5_begin_6 rfl ?_
  obtain ⟨I3, eI3, hf⟩ := zw_letE hf
  refine zx_putI (pc := 7) (I2 := I3) d_X5_begin_7 lk_CutStones_Rule_13 rfl g1 eI3 ?_
  refine zv_aload_n (pc := 10) d_X5_begin_10 rfl ?_
  refine zv_iload_n (pc := 11) d_X5_begin_11 rfl ?_
  obtain ⟨I4, eI4, hf⟩ := zw_letE hf
  refine zx_putI (pc := 12) (I2 := I4) d_X5_begin_12 lk_CutStones_Rule_16 rfl g1 eI4 ?_
  cases hf
  exact zx_vret (pc := 15) d_X5_begin_15 rfl hk
abbrev M_X6_setHead : zw_M := (⟨"CutStones$Shine", "setHead", "(II)V"⟩, prog_8_method_3_code, 3, (Option.none : Option Jvm.ClassFile.FieldType))
theorem d_X6_setHead_0 : decode M_X6_setHead.2.1 0 = .ok (.aload_n 0, 1) := by decide +kernel
theorem d_X6_setHead_1 : decode M_X6_setHead.2.1 1 = .ok (.iload_n 1, 1) := by decide +kernel
theorem d_X6_setHead_2 : decode M_X6_setHead.2.1 2 = .ok (.putfield 41, 3) := by decide +kernel
theorem d_X6_setHead_5 : decode M_X6_setHead.2.1 5 = .ok (.aload_n 0, 1) := by decide +kernel
theorem d_X6_setHead_6 : decode M_X6_setHead.2.1 6 = .ok (.iload_n 2, 1) := by decide +kernel
theorem d_X6_setHead_7 : decode M_X6_setHead.2.1 7 = .ok (.putfield 44, 3) := by decide +kernel
theorem d_X6_setHead_10 : decode M_X6_setHead.2.1 10 = .ok (.return_, 1) := by decide +kernel
theorem ce_X6_setHead : zw_CeV M_X6_setHead 2 := ⟨⟨⟨by decide +kernel, by decide +kernel, by decide +kernel⟩, (zw_mG (List.mem_of_getElem? (i := 940) (by decide +kernel)) rfl), (zw_mG (List.mem_of_getElem? (i := 104) (by decide +kernel)) rfl), by decide, by decide +kernel⟩, (zw_mG (List.mem_of_getElem? (i := 938) (by decide +kernel)) rfl), (zw_mG (List.mem_of_getElem? (i := 939) (by decide +kernel)) rfl)⟩
def f_X6_setHead (v0 : Nat) (v1 : Int32) (v2 : Int32) (I : zI) : Option (zI) :=
  zw_g (zw_gc v0 6) (zw_let (zw_u I v0 8 v1 : zI) fun I2 => (zw_let (zw_u I2 v0 9 v2 : zI) fun I3 => (some I3)))
theorem c_X6_setHead (X : zw_X) (v0 : Nat) (v1 : Int32) (v2 : Int32) (I : zI) (R : zR) (J : zJ) {P : Option Value → aS → Prop} (o : zI) (hf : f_X6_setHead v0 v1 v2 I = some o) (hk : P none (o, R, J)) : zw_C X M_X6_setHead 0 0 0 199 [.ref v0, .int v1, .int v2] (I, R, J) P := by
  show zy_V X M_X6_setHead 0 P 0 [.ref v0, .int v1, .int v2] [] (I, R, J)
  unfold f_X6_setHead at hf
  refine zv_aload_n (pc := 0) d_X6_setHead_0 rfl ?_
  refine zv_iload_n (pc := 1) d_X6_setHead_1 rfl ?_
  obtain ⟨g1, hf⟩ := zw_gcE hf (by decide)
  obtain ⟨I2, eI2, hf⟩ := zw_letE hf
  refine zx_putI (pc := 2) (I2 := I2) d_X6_setHead_2 lk_CutStones_Shine_41 rfl g1 eI2 ?_
  refine zv_aload_n (pc := 5) d_X6_setHead_5 rfl ?_
  refine zv_iload_n (pc := 6) d_X6_setHead_6 rfl ?_
  obtain ⟨I3, eI3, hf⟩ := zw_letE hf
  refine zx_putI (pc := 7) (I2 := I3) d_X6_setHead_7 lk_CutStones_Shine_44 rfl g1 eI3 ?_
  cases hf
  exact zx_vret (pc := 10) d_X6_setHead_10 rfl hk
abbrev M_X6_setLamps : zw_M := (⟨"CutStones$Shine", "setLamps", "(III)V"⟩, prog_8_method_2_code, 4, (Option.none : Option Jvm.ClassFile.FieldType))
theorem d_X6_setLamps_0 : decode M_X6_setLamps.2.1 0 = .ok (.aload_n 0, 1) := by decide +kernel
theorem d_X6_setLamps_1 : decode M_X6_setLamps.2.1 1 = .ok (.iload_n 1, 1) := by decide +kernel
theorem d_X6_setLamps_2 : decode M_X6_setLamps.2.1 2 = .ok (.putfield 32, 3) := by decide +kernel
theorem d_X6_setLamps_5 : decode M_X6_setLamps.2.1 5 = .ok (.aload_n 0, 1) := by decide +kernel
theorem d_X6_setLamps_6 : decode M_X6_setLamps.2.1 6 = .ok (.iload_n 2, 1) := by decide +kernel
theorem d_X6_setLamps_7 : decode M_X6_setLamps.2.1 7 = .ok (.putfield 35, 3) := by decide +kernel
theorem d_X6_setLamps_10 : decode M_X6_setLamps.2.1 10 = .ok (.aload_n 0, 1) := by decide +kernel
theorem d_X6_setLamps_11 : decode M_X6_setLamps.2.1 11 = .ok (.iload_n 3, 1) := by decide +kernel
theorem d_X6_setLamps_12 : decode M_X6_setLamps.2.1 12 = .ok (.putfield 38, 3) := by decide +kernel
theorem d_X6_setLamps_15 : decode M_X6_setLamps.2.1 15 = .ok (.return_, 1) := by decide +kernel
theorem ce_X6_setLamps : zw_CeV M_X6_setLamps 3 := ⟨⟨⟨by decide +kernel, by decide +kernel, by decide +kernel⟩, (zw_mG (List.mem_of_getElem? (i := 477) (by decide +kernel)) rfl), (zw_mG (List.mem_of_getElem? (i := 104) (by decide +kernel)) rfl), by decide, by decide +kernel⟩, (zw_mG (List.mem_of_getElem? (i := 475) (by decide +kernel)) rfl), (zw_mG (List.mem_of_getElem? (i := 476) (by decide +kernel)) rfl)⟩
def f_X6_setLamps (v0 : Nat) (v1 : Int32) (v2 : Int32) (v3 : Int32) (I : zI) : Option (zI) :=
  zw_g (zw_gc v0 6) (zw_let (zw_u I v0 5 v1 : zI) fun I2 => (zw_let (zw_u I2 v0 6 v2 : zI) fun I3 => (zw_let (zw_u I3 v0 7 v3 : zI) fun I4 => (some I4))))
theorem c_X6_setLamps (X : zw_X) (v0 : Nat) (v1 : Int32) (v2 : Int32) (v3 : Int32) (I : zI) (R : zR) (J : zJ) {P : Option Value → aS → Prop} (o : zI) (hf : f_X6_setLamps v0 v1 v2 v3 I = some o) (hk : P none (o, R, J)) : zw_C X M_X6_setLamps 0 0 0 199 [.ref v0, .int v1, .int v2, .int v3] (I, R, J) P := by
  show zy_V X M_X6_setLamps 0 P 0 [.ref v0, .int v1, .int v2, .int v3] [] (I, R, J)
  unfold f_X6_setLamps at hf
  refine zv_aload_n (pc := 0) d_X6_setLamps_0 rfl ?_
  refine zv_iload_n (pc := 1) d_X6_setLamps_1 rfl ?_
  obtain ⟨g1, hf⟩ := zw_gcE hf (by decide)
  obtain ⟨I2, eI2, hf⟩ := zw_letE hf
  refine zx_putI (pc := 2) (I2 := I2) d_X6_setLamps_2 lk_CutStones_Shine_32 rfl g1 eI2 ?_
  refine zv_aload_n (pc := 5) d_X6_setLamps_5 rfl ?_
  refine zv_iload_n (pc := 6) d_X6_setLamps_6 rfl ?_
  obtain ⟨I3, eI3, hf⟩ := zw_letE hf
  refine zx_putI (pc := 7) (I2 := I3) d_X6_setLamps_7 lk_CutStones_Shine_35 rfl g1 eI3 ?_
  refine zv_aload_n (pc := 10) d_X6_setLamps_10 rfl ?_
  refine zv_iload_n (pc := 11) d_X6_setLamps_11 rfl ?_
  obtain ⟨I4, eI4, hf⟩ := zw_letE hf
  refine zx_putI (pc := 12) (I2 := I4) d_X6_setLamps_12 lk_CutStones_Shine_38 rfl g1 eI4 ?_
  cases hf
  exact zx_vret (pc := 15) d_X6_setLamps_15 rfl hk
abbrev M_X6_valueOf : zw_M := (⟨"CutStones$Shine", "valueOf", "(I)I"⟩, prog_8_method_8_code, 2, (Option.some Jvm.ClassFile.FieldType.int))
theorem d_X6_valueOf_0 : decode M_X6_valueOf.2.1 0 = .ok (.iload_n 1, 1) := by decide +kernel
theorem d_X6_valueOf_1 : decode M_X6_valueOf.2.1 1 = .ok (.lookupswitch 37 #[(5, 27), (6, 32)], 27) := by decide +kernel
theorem d_X6_valueOf_28 : decode M_X6_valueOf.2.1 28 = .ok (.aload_n 0, 1) := by decide +kernel
theorem d_X6_valueOf_29 : decode M_X6_valueOf.2.1 29 = .ok (.getfield 26, 3) := by decide +kernel
theorem d_X6_valueOf_32 : decode M_X6_valueOf.2.1 32 = .ok (.ireturn, 1) := by decide +kernel
theorem d_X6_valueOf_33 : decode M_X6_valueOf.2.1 33 = .ok (.aload_n 0, 1) := by decide +kernel
theorem d_X6_valueOf_34 : decode M_X6_valueOf.2.1 34 = .ok (.getfield 22, 3) := by decide +kernel
theorem d_X6_valueOf_37 : decode M_X6_valueOf.2.1 37 = .ok (.ireturn, 1) := by decide +kernel
theorem d_X6_valueOf_38 : decode M_X6_valueOf.2.1 38 = .ok (.iload_n 1, 1) := by decide +kernel
theorem d_X6_valueOf_39 : decode M_X6_valueOf.2.1 39 = .ok (.ifCond .lt 17, 3) := by decide +kernel
theorem d_X6_valueOf_42 : decode M_X6_valueOf.2.1 42 = .ok (.iload_n 1, 1) := by decide +kernel
theorem d_X6_valueOf_43 : decode M_X6_valueOf.2.1 43 = .ok (.iconst 5, 1) := by decide +kernel
theorem d_X6_valueOf_44 : decode M_X6_valueOf.2.1 44 = .ok (.if_icmp .ge 12, 3) := by decide +kernel
theorem d_X6_valueOf_47 : decode M_X6_valueOf.2.1 47 = .ok (.aload_n 0, 1) := by decide +kernel
theorem d_X6_valueOf_48 : decode M_X6_valueOf.2.1 48 = .ok (.getfield 9, 3) := by decide +kernel
theorem d_X6_valueOf_51 : decode M_X6_valueOf.2.1 51 = .ok (.iload_n 1, 1) := by decide +kernel
theorem d_X6_valueOf_52 : decode M_X6_valueOf.2.1 52 = .ok (.iaload, 1) := by decide +kernel
theorem d_X6_valueOf_53 : decode M_X6_valueOf.2.1 53 = .ok (.goto 7, 3) := by decide +kernel
theorem d_X6_valueOf_56 : decode M_X6_valueOf.2.1 56 = .ok (.aload_n 0, 1) := by decide +kernel
theorem d_X6_valueOf_57 : decode M_X6_valueOf.2.1 57 = .ok (.getfield 29, 3) := by decide +kernel
theorem d_X6_valueOf_60 : decode M_X6_valueOf.2.1 60 = .ok (.ireturn, 1) := by decide +kernel
theorem ce_X6_valueOf : zw_CeV M_X6_valueOf 1 := ⟨⟨⟨by decide +kernel, by decide +kernel, by decide +kernel⟩, (zw_mG (List.mem_of_getElem? (i := 998) (by decide +kernel)) rfl), (zw_mG (List.mem_of_getElem? (i := 104) (by decide +kernel)) rfl), by decide, by decide +kernel⟩, (zw_mG (List.mem_of_getElem? (i := 996) (by decide +kernel)) rfl), (zw_mG (List.mem_of_getElem? (i := 997) (by decide +kernel)) rfl)⟩
def f_X6_valueOf (v0 : Nat) (v1 : Int32) (I : zI) (R : zR) : Option (Int32) :=
  if v1 = 5 then zw_g (zw_gc v0 6) (some (I v0 3)) else (if v1 = 6 then zw_g (zw_gc v0 6) (some (I v0 2)) else (if v1 < 0 then zw_g (zw_gc v0 6) (some (I v0 4)) else if 5 ≤ v1 then zw_g (zw_gc v0 6) (some (I v0 4)) else zw_g (zw_gc v0 6) (zw_g (zw_gc (R v0 0) 13) (zw_g (zw_in v1 (zw_SH (R v0 0)).2) (some (I (R v0 0) (Int32.toNatClampNeg v1)))))))
theorem c_X6_valueOf (X : zw_X) (v0 : Nat) (v1 : Int32) (I : zI) (R : zR) (J : zJ) {P : Option Value → aS → Prop} (o : Int32) (hf : f_X6_valueOf v0 v1 I R = some o) (hk : P (some (.int o)) (I, R, J)) : zw_C X M_X6_valueOf 0 0 0 199 [.ref v0, .int v1] (I, R, J) P := by
  show zy_V X M_X6_valueOf 0 P 0 [.ref v0, .int v1] [] (I, R, J)
  unfold f_X6_valueOf at hf
  refine zv_iload_n (pc := 0) d_X6_valueOf_0 rfl ?_
  rcases zw_ifE hf with ⟨c1, hf⟩ | ⟨c1, hf⟩
  · refine zx_lsw (pc := 1) (tg := 28) (z := 27) d_X6_valueOf_1 (by decide) (by rw [c1]; decide +kernel) (by decide) ?_
    refine zv_aload_n (pc := 28) d_X6_valueOf_28 rfl ?_
    obtain ⟨g2, hf⟩ := zw_gcE hf (by decide)
    refine zx_getI (pc := 29) d_X6_valueOf_29 lk_CutStones_Shine_26 (by decide) g2 ?_
    cases hf
    exact zx_iret (pc := 32) d_X6_valueOf_32 rfl hk
  ·
    rcases zw_ifE hf with ⟨c3, hf⟩ | ⟨c3, hf⟩
    · refine zx_lsw (pc := 1) (tg := 33) (z := 32) d_X6_valueOf_1 (by decide) (by rw [c3]; decide +kernel) (by decide) ?_
      refine zv_aload_n (pc := 33) d_X6_valueOf_33 rfl ?_
      obtain ⟨g4, hf⟩ := zw_gcE hf (by decide)
      refine zx_getI (pc := 34) d_X6_valueOf_34 lk_CutStones_Shine_22 (by decide) g4 ?_
      cases hf
      exact zx_iret (pc := 37) d_X6_valueOf_37 rfl hk
    ·
      refine zx_lsw (pc := 1) (tg := 38) (z := 37) d_X6_valueOf_1 (by decide) (by show Op.lookupswitch.offset [(5, 27), (6, 32)] 37 v1.toInt = 37; rw [lv_osw c1 (by decide +kernel), lv_osw c3 (by decide +kernel)]; rfl) (by decide) ?_
      refine zv_iload_n (pc := 38) d_X6_valueOf_38 rfl ?_
      rcases zw_ifE hf with ⟨c5, hf⟩ | ⟨c5, hf⟩
      · refine zv_if_lt (pc := 39) (tg := 56) d_X6_valueOf_39 (by decide) (fun _ => ?_) (fun q => absurd c5 q)
        refine zv_aload_n (pc := 56) d_X6_valueOf_56 rfl ?_
        obtain ⟨g6, hf⟩ := zw_gcE hf (by decide)
        refine zx_getI (pc := 57) d_X6_valueOf_57 lk_CutStones_Shine_29 (by decide) g6 ?_
        cases hf
        exact zx_iret (pc := 60) d_X6_valueOf_60 rfl hk
      · refine zv_if_lt (pc := 39) (tg := 56) d_X6_valueOf_39 (by decide) (fun q => absurd q c5) (fun _ => ?_)
        refine zv_iload_n (pc := 42) d_X6_valueOf_42 rfl ?_
        refine zv_iconst (pc := 43) d_X6_valueOf_43 zc_i_5 ?_
        rcases zw_ifE hf with ⟨c7, hf⟩ | ⟨c7, hf⟩
        · refine zv_icmp_ge (pc := 44) (tg := 56) d_X6_valueOf_44 (by decide) (fun _ => ?_) (fun q => absurd c7 q)
          refine zv_aload_n (pc := 56) d_X6_valueOf_56 rfl ?_
          obtain ⟨g8, hf⟩ := zw_gcE hf (by decide)
          refine zx_getI (pc := 57) d_X6_valueOf_57 lk_CutStones_Shine_29 (by decide) g8 ?_
          cases hf
          exact zx_iret (pc := 60) d_X6_valueOf_60 rfl hk
        · refine zv_icmp_ge (pc := 44) (tg := 56) d_X6_valueOf_44 (by decide) (fun q => absurd q c7) (fun _ => ?_)
          refine zv_aload_n (pc := 47) d_X6_valueOf_47 rfl ?_
          obtain ⟨g9, hf⟩ := zw_gcE hf (by decide)
          obtain ⟨g10, hf⟩ := zw_gcE hf (by decide)
          refine zx_getR (pc := 48) d_X6_valueOf_48 lk_CutStones_Shine_9 (by decide) g9 g10 ?_
          refine zv_iload_n (pc := 51) d_X6_valueOf_51 rfl ?_
          obtain ⟨i11, hf⟩ := zw_inE hf
          refine zx_iald (pc := 52) d_X6_valueOf_52 g10 i11 ?_
          refine zv_goto (pc := 53) (tg := 60) d_X6_valueOf_53 (by decide) ?_
          cases hf
          exact zx_iret (pc := 60) d_X6_valueOf_60 rfl hk
abbrev M_X7_setShare : zw_M := (⟨"CutStones$Stuff", "setShare", "(III)V"⟩, prog_9_method_2_code, 5, (Option.none : Option Jvm.ClassFile.FieldType))
theorem d_X7_setShare_0 : decode M_X7_setShare.2.1 0 = .ok (.iload_n 1, 1) := by decide +kernel
theorem d_X7_setShare_1 : decode M_X7_setShare.2.1 1 = .ok (.istore 4, 2) := by decide +kernel
theorem d_X7_setShare_3 : decode M_X7_setShare.2.1 3 = .ok (.iload 4, 2) := by decide +kernel
theorem d_X7_setShare_5 : decode M_X7_setShare.2.1 5 = .ok (.iconst 4, 1) := by decide +kernel
theorem d_X7_setShare_6 : decode M_X7_setShare.2.1 6 = .ok (.if_icmp .ge 25, 3) := by decide +kernel
theorem d_X7_setShare_9 : decode M_X7_setShare.2.1 9 = .ok (.aload_n 0, 1) := by decide +kernel
theorem d_X7_setShare_10 : decode M_X7_setShare.2.1 10 = .ok (.getfield 9, 3) := by decide +kernel
theorem d_X7_setShare_13 : decode M_X7_setShare.2.1 13 = .ok (.iload 4, 2) := by decide +kernel
theorem d_X7_setShare_15 : decode M_X7_setShare.2.1 15 = .ok (.iload_n 2, 1) := by decide +kernel
theorem d_X7_setShare_16 : decode M_X7_setShare.2.1 16 = .ok (.iastore, 1) := by decide +kernel
theorem d_X7_setShare_17 : decode M_X7_setShare.2.1 17 = .ok (.aload_n 0, 1) := by decide +kernel
theorem d_X7_setShare_18 : decode M_X7_setShare.2.1 18 = .ok (.getfield 15, 3) := by decide +kernel
theorem d_X7_setShare_21 : decode M_X7_setShare.2.1 21 = .ok (.iload 4, 2) := by decide +kernel
theorem d_X7_setShare_23 : decode M_X7_setShare.2.1 23 = .ok (.iload_n 3, 1) := by decide +kernel
theorem d_X7_setShare_24 : decode M_X7_setShare.2.1 24 = .ok (.iastore, 1) := by decide +kernel
theorem d_X7_setShare_25 : decode M_X7_setShare.2.1 25 = .ok (.iinc 4 1, 3) := by decide +kernel
theorem d_X7_setShare_28 : decode M_X7_setShare.2.1 28 = .ok (.goto (-25), 3) := by decide +kernel
theorem d_X7_setShare_31 : decode M_X7_setShare.2.1 31 = .ok (.return_, 1) := by decide +kernel
theorem ce_X7_setShare : zw_CeV M_X7_setShare 3 := ⟨⟨⟨by decide +kernel, by decide +kernel, by decide +kernel⟩, (zw_mG (List.mem_of_getElem? (i := 824) (by decide +kernel)) rfl), (zw_mG (List.mem_of_getElem? (i := 100) (by decide +kernel)) rfl), by decide, by decide +kernel⟩, (zw_mG (List.mem_of_getElem? (i := 822) (by decide +kernel)) rfl), (zw_mG (List.mem_of_getElem? (i := 823) (by decide +kernel)) rfl)⟩
def s_X7_setShare_3 (v0 : Nat) (v2 : Int32) (v3 : Int32) (R : zR) (s : Int32 × zI) : Option ((Int32 × zI) ⊕ (zI)) :=
  if 4 ≤ s.1 then some (.inr s.2) else zw_g (zw_gc v0 7) (zw_g (zw_gc (R v0 0) 13) (zw_g (zw_in s.1 (zw_SH (R v0 0)).2) (zw_let (zw_u s.2 (R v0 0) (Int32.toNatClampNeg s.1) v2 : zI) fun I5 => (zw_g (zw_gc (R v0 1) 13) (zw_g (zw_in s.1 (zw_SH (R v0 1)).2) (zw_let (zw_u I5 (R v0 1) (Int32.toNatClampNeg s.1) v3 : zI) fun I8 => (zw_let (s.1 + 1 : Int32) fun x9 => (some (.inl (x9, I8))))))))))
theorem s_X7_setShare_3_ok (X : zw_X) (P : Option Value → aS → Prop) (v0 : Nat) (v2 : Int32) (v3 : Int32) (R : zR) (J : zJ) (s : Int32 × zI) (o : (Int32 × zI) ⊕ (zI)) (hf : s_X7_setShare_3 v0 v2 v3 R s = some o) (hk : (zw_se (fun t => zy_V X M_X7_setShare 0 P 3 [.ref v0, .null, .int v2, .int v3, .int t.1] [] (t.2, R, J)) (fun r => zy_V X M_X7_setShare 0 P 31 [.null, .null, .null, .null, .null] [] (r, R, J)) o)) : zy_V X M_X7_setShare 0 P 3 [.ref v0, .null, .int v2, .int v3, .int s.1] [] (s.2, R, J) := by
  unfold s_X7_setShare_3 at hf
  refine zv_iload (pc := 3) d_X7_setShare_3 rfl ?_
  refine zv_iconst (pc := 5) d_X7_setShare_5 zc_i_4 ?_
  rcases zw_ifE hf with ⟨c1, hf⟩ | ⟨c1, hf⟩
  · refine zv_icmp_ge (pc := 6) (tg := 31) d_X7_setShare_6 (by decide) (fun _ => ?_) (fun q => absurd c1 q)
    cases hf
    exact zx_weak (zw_leN (zw_leN (zw_leN (zw_leN (zw_leN zw_leZ))))) hk
  · refine zv_icmp_ge (pc := 6) (tg := 31) d_X7_setShare_6 (by decide) (fun q => absurd q c1) (fun _ => ?_)
    refine zv_aload_n (pc := 9) d_X7_setShare_9 rfl ?_
    obtain ⟨g2, hf⟩ := zw_gcE hf (by decide)
    obtain ⟨g3, hf⟩ := zw_gcE hf (by decide)
    refine zx_getR (pc := 10) d_X7_setShare_10 lk_CutStones_Stuff_9 (by decide) g2 g3 ?_
    refine zv_iload (pc := 13) d_X7_setShare_13 rfl ?_
    refine zv_iload_n (pc := 15) d_X7_setShare_15 rfl ?_
    obtain ⟨i4, hf⟩ := zw_inE hf
    obtain ⟨I5, eI5, hf⟩ := zw_letE hf
    refine zx_iast (pc := 16) (I2 := I5) d_X7_setShare_16 g3 i4 eI5 ?_
    refine zv_aload_n (pc := 17) d_X7_setShare_17 rfl ?_
    obtain ⟨g6, hf⟩ := zw_gcE hf (by decide)
    refine zx_getR (pc := 18) d_X7_setShare_18 lk_CutStones_Stuff_15 (by decide) g2 g6 ?_
    refine zv_iload (pc := 21) d_X7_setShare_21 rfl ?_
    refine zv_iload_n (pc := 23) d_X7_setShare_23 rfl ?_
    obtain ⟨i7, hf⟩ := zw_inE hf
    obtain ⟨I8, eI8, hf⟩ := zw_letE hf
    refine zx_iast (pc := 24) (I2 := I8) d_X7_setShare_24 g6 i7 eI8 ?_
    obtain ⟨x9, ex9, hf⟩ := zw_letE hf
    refine zx_iinc (pc := 25) (x2 := x9) (L2 := [.ref v0, .null, .int v2, .int v3, .int x9]) d_X7_setShare_25 (by decide) rfl zc_i_1 ex9 rfl ?_
    refine zv_goto (pc := 28) (tg := 3) d_X7_setShare_28 (by decide) ?_
    cases hf
    exact zx_weak (zw_leS (zw_leN (zw_leS (zw_leS (zw_leS zw_leZ))))) hk
theorem s_X7_setShare_3_lp (X : zw_X) (P : Option Value → aS → Prop) (v0 : Nat) (v2 : Int32) (v3 : Int32) (R : zR) (J : zJ) (n : Nat) (s : Int32 × zI) (r : zI) (h : zw_it (s_X7_setShare_3 v0 v2 v3 R) n s = some r) (hq : zy_V X M_X7_setShare 0 P 31 [.null, .null, .null, .null, .null] [] (r, R, J)) : zy_V X M_X7_setShare 0 P 3 [.ref v0, .null, .int v2, .int v3, .int s.1] [] (s.2, R, J) :=
  zw_itE (A := (fun t : Int32 × zI => zy_V X M_X7_setShare 0 P 3 [.ref v0, .null, .int v2, .int v3, .int t.1] [] (t.2, R, J))) (Q := (fun r : zI => zy_V X M_X7_setShare 0 P 31 [.null, .null, .null, .null, .null] [] (r, R, J))) (fun s o h1 h2 => s_X7_setShare_3_ok X P v0 v2 v3 R J s o h1 h2) n s r h hq
def f_X7_setShare (v0 : Nat) (v1 : Int32) (v2 : Int32) (v3 : Int32) (I : zI) (R : zR) : Option (zI) :=
  (zw_it (s_X7_setShare_3 v0 v2 v3 R) 1000000 (v1, I)).bind fun q10 => (some q10)
theorem c_X7_setShare (X : zw_X) (v0 : Nat) (v1 : Int32) (v2 : Int32) (v3 : Int32) (I : zI) (R : zR) (J : zJ) {P : Option Value → aS → Prop} (o : zI) (hf : f_X7_setShare v0 v1 v2 v3 I R = some o) (hk : P none (o, R, J)) : zw_C X M_X7_setShare 0 0 0 199 [.ref v0, .int v1, .int v2, .int v3] (I, R, J) P := by
  show zy_V X M_X7_setShare 0 P 0 [.ref v0, .int v1, .int v2, .int v3, .null] [] (I, R, J)
  unfold f_X7_setShare at hf
  refine zv_iload_n (pc := 0) d_X7_setShare_0 rfl ?_
  refine zx_istore (pc := 1) (x2 := v1) (L2 := [.ref v0, .int v1, .int v2, .int v3, .int v1]) d_X7_setShare_1 (by decide) rfl rfl ?_
  obtain ⟨q10, hq10, hf⟩ := zw_bdE hf
  refine zx_weak (L' := [.ref v0, .null, .int v2, .int v3, .int v1]) (zw_leS (zw_leN (zw_leS (zw_leS (zw_leS zw_leZ))))) (s_X7_setShare_3_lp X P v0 v2 v3 R J _ _ _ hq10 ?_)
  show zy_V X M_X7_setShare 0 P 31 [.null, .null, .null, .null, .null] [] (q10, R, J)
  cases hf
  exact zx_vret (pc := 31) d_X7_setShare_31 rfl hk
abbrev M_X8_append : zw_M := (⟨"CutStones$Tape", "append", "(I)V"⟩, prog_10_method_2_code, 3, (Option.none : Option Jvm.ClassFile.FieldType))
theorem d_X8_append_0 : decode M_X8_append.2.1 0 = .ok (.bipush 24, 2) := by decide +kernel
theorem d_X8_append_2 : decode M_X8_append.2.1 2 = .ok (.istore_n 2, 1) := by decide +kernel
theorem d_X8_append_3 : decode M_X8_append.2.1 3 = .ok (.iload_n 2, 1) := by decide +kernel
theorem d_X8_append_4 : decode M_X8_append.2.1 4 = .ok (.ifCond .lt 42, 3) := by decide +kernel
theorem d_X8_append_7 : decode M_X8_append.2.1 7 = .ok (.aload_n 0, 1) := by decide +kernel
theorem d_X8_append_8 : decode M_X8_append.2.1 8 = .ok (.getfield 15, 3) := by decide +kernel
theorem d_X8_append_11 : decode M_X8_append.2.1 11 = .ok (.sipush 2000, 3) := by decide +kernel
theorem d_X8_append_14 : decode M_X8_append.2.1 14 = .ok (.if_icmp .ge 32, 3) := by decide +kernel
theorem d_X8_append_17 : decode M_X8_append.2.1 17 = .ok (.aload_n 0, 1) := by decide +kernel
theorem d_X8_append_18 : decode M_X8_append.2.1 18 = .ok (.getfield 9, 3) := by decide +kernel
theorem d_X8_append_21 : decode M_X8_append.2.1 21 = .ok (.aload_n 0, 1) := by decide +kernel
theorem d_X8_append_22 : decode M_X8_append.2.1 22 = .ok (.getfield 15, 3) := by decide +kernel
theorem d_X8_append_25 : decode M_X8_append.2.1 25 = .ok (.iload_n 1, 1) := by decide +kernel
theorem d_X8_append_26 : decode M_X8_append.2.1 26 = .ok (.iload_n 2, 1) := by decide +kernel
theorem d_X8_append_27 : decode M_X8_append.2.1 27 = .ok (.ishr, 1) := by decide +kernel
theorem d_X8_append_28 : decode M_X8_append.2.1 28 = .ok (.i2b, 1) := by decide +kernel
theorem d_X8_append_29 : decode M_X8_append.2.1 29 = .ok (.bastore, 1) := by decide +kernel
theorem d_X8_append_30 : decode M_X8_append.2.1 30 = .ok (.aload_n 0, 1) := by decide +kernel
theorem d_X8_append_31 : decode M_X8_append.2.1 31 = .ok (.dup, 1) := by decide +kernel
theorem d_X8_append_32 : decode M_X8_append.2.1 32 = .ok (.getfield 15, 3) := by decide +kernel
theorem d_X8_append_35 : decode M_X8_append.2.1 35 = .ok (.iconst 1, 1) := by decide +kernel
theorem d_X8_append_36 : decode M_X8_append.2.1 36 = .ok (.iadd, 1) := by decide +kernel
theorem d_X8_append_37 : decode M_X8_append.2.1 37 = .ok (.putfield 15, 3) := by decide +kernel
theorem d_X8_append_40 : decode M_X8_append.2.1 40 = .ok (.iinc 2 (-8), 3) := by decide +kernel
theorem d_X8_append_43 : decode M_X8_append.2.1 43 = .ok (.goto (-40), 3) := by decide +kernel
theorem d_X8_append_46 : decode M_X8_append.2.1 46 = .ok (.return_, 1) := by decide +kernel
theorem ce_X8_append : zw_CeV M_X8_append 1 := ⟨⟨⟨by decide +kernel, by decide +kernel, by decide +kernel⟩, (zw_mG (List.mem_of_getElem? (i := 528) (by decide +kernel)) rfl), (zw_mG (List.mem_of_getElem? (i := 97) (by decide +kernel)) rfl), by decide, by decide +kernel⟩, (zw_mG (List.mem_of_getElem? (i := 526) (by decide +kernel)) rfl), (zw_mG (List.mem_of_getElem? (i := 527) (by decide +kernel)) rfl)⟩
def s_X8_append_3 (v0 : Nat) (v1 : Int32) (R : zR) (s : Int32 × zI) : Option ((Int32 × zI) ⊕ (zI)) :=
  if s.1 < 0 then some (.inr s.2) else zw_g (zw_gc v0 8) (if 2000 ≤ (s.2 v0 1) then some (.inr s.2) else zw_g (zw_gc (R v0 0) 12) (zw_g (zw_in (s.2 v0 1) (zw_SH (R v0 0)).2) (zw_let (zw_u s.2 (R v0 0) (Int32.toNatClampNeg (s.2 v0 1)) (Int8.toInt32 (Int32.toInt8 (Int8.toInt32 (Int32.toInt8 (v1 >>> (s.1 &&& 31)))))) : zI) fun I6 => (zw_let (zw_u I6 v0 1 ((I6 v0 1) + 1) : zI) fun I7 => (zw_let (s.1 + (-8) : Int32) fun x8 => (some (.inl (x8, I7))))))))
theorem s_X8_append_3_ok (X : zw_X) (P : Option Value → aS → Prop) (v0 : Nat) (v1 : Int32) (R : zR) (J : zJ) (s : Int32 × zI) (o : (Int32 × zI) ⊕ (zI)) (hf : s_X8_append_3 v0 v1 R s = some o) (hk : (zw_se (fun t => zy_V X M_X8_append 0 P 3 [.ref v0, .int v1, .int t.1] [] (t.2, R, J)) (fun r => zy_V X M_X8_append 0 P 46 [.null, .null, .null] [] (r, R, J)) o)) : zy_V X M_X8_append 0 P 3 [.ref v0, .int v1, .int s.1] [] (s.2, R, J) := by
  unfold s_X8_append_3 at hf
  refine zv_iload_n (pc := 3) d_X8_append_3 rfl ?_
  rcases zw_ifE hf with ⟨c1, hf⟩ | ⟨c1, hf⟩
  · refine zv_if_lt (pc := 4) (tg := 46) d_X8_append_4 (by decide) (fun _ => ?_) (fun q => absurd c1 q)
    cases hf
    exact zx_weak (zw_leN (zw_leN (zw_leN zw_leZ))) hk
  · refine zv_if_lt (pc := 4) (tg := 46) d_X8_append_4 (by decide) (fun q => absurd q c1) (fun _ => ?_)
    refine zv_aload_n (pc := 7) d_X8_append_7 rfl ?_
    obtain ⟨g2, hf⟩ := zw_gcE hf (by decide)
    refine zx_getI (pc := 8) d_X8_append_8 lk_CutStones_Tape_15 (by decide) g2 ?_
    refine zv_sipush (pc := 11) d_X8_append_11 zc_s_2000 ?_
    rcases zw_ifE hf with ⟨c3, hf⟩ | ⟨c3, hf⟩
    · refine zv_icmp_ge (pc := 14) (tg := 46) d_X8_append_14 (by decide) (fun _ => ?_) (fun q => absurd c3 q)
      cases hf
      exact zx_weak (zw_leN (zw_leN (zw_leN zw_leZ))) hk
    · refine zv_icmp_ge (pc := 14) (tg := 46) d_X8_append_14 (by decide) (fun q => absurd q c3) (fun _ => ?_)
      refine zv_aload_n (pc := 17) d_X8_append_17 rfl ?_
      obtain ⟨g4, hf⟩ := zw_gcE hf (by decide)
      refine zx_getR (pc := 18) d_X8_append_18 lk_CutStones_Tape_9 (by decide) g2 g4 ?_
      refine zv_aload_n (pc := 21) d_X8_append_21 rfl ?_
      refine zx_getI (pc := 22) d_X8_append_22 lk_CutStones_Tape_15 (by decide) g2 ?_
      refine zv_iload_n (pc := 25) d_X8_append_25 rfl ?_
      refine zv_iload_n (pc := 26) d_X8_append_26 rfl ?_
      refine zv_ishr (pc := 27) d_X8_append_27 ?_
      refine zv_i2b (pc := 28) d_X8_append_28 ?_
      obtain ⟨i5, hf⟩ := zw_inE hf
      obtain ⟨I6, eI6, hf⟩ := zw_letE hf
      refine zx_bast (pc := 29) (I2 := I6) d_X8_append_29 g4 i5 eI6 ?_
      refine zv_aload_n (pc := 30) d_X8_append_30 rfl ?_
      refine zv_dup (pc := 31) d_X8_append_31 rfl ?_
      refine zx_getI (pc := 32) d_X8_append_32 lk_CutStones_Tape_15 (by decide) g2 ?_
      refine zv_iconst (pc := 35) d_X8_append_35 zc_i_1 ?_
      refine zv_iadd (pc := 36) d_X8_append_36 ?_
      obtain ⟨I7, eI7, hf⟩ := zw_letE hf
      refine zx_putI (pc := 37) (I2 := I7) d_X8_append_37 lk_CutStones_Tape_15 rfl g2 eI7 ?_
      obtain ⟨x8, ex8, hf⟩ := zw_letE hf
      refine zx_iinc (pc := 40) (x2 := x8) (L2 := [.ref v0, .int v1, .int x8]) d_X8_append_40 (by decide) rfl zc_i_m8 ex8 rfl ?_
      refine zv_goto (pc := 43) (tg := 3) d_X8_append_43 (by decide) ?_
      cases hf
      exact zx_weak (zw_leS (zw_leS (zw_leS zw_leZ))) hk
theorem s_X8_append_3_lp (X : zw_X) (P : Option Value → aS → Prop) (v0 : Nat) (v1 : Int32) (R : zR) (J : zJ) (n : Nat) (s : Int32 × zI) (r : zI) (h : zw_it (s_X8_append_3 v0 v1 R) n s = some r) (hq : zy_V X M_X8_append 0 P 46 [.null, .null, .null] [] (r, R, J)) : zy_V X M_X8_append 0 P 3 [.ref v0, .int v1, .int s.1] [] (s.2, R, J) :=
  zw_itE (A := (fun t : Int32 × zI => zy_V X M_X8_append 0 P 3 [.ref v0, .int v1, .int t.1] [] (t.2, R, J))) (Q := (fun r : zI => zy_V X M_X8_append 0 P 46 [.null, .null, .null] [] (r, R, J))) (fun s o h1 h2 => s_X8_append_3_ok X P v0 v1 R J s o h1 h2) n s r h hq
def f_X8_append (v0 : Nat) (v1 : Int32) (I : zI) (R : zR) : Option (zI) :=
  (zw_it (s_X8_append_3 v0 v1 R) 1000000 (24, I)).bind fun q9 => (some q9)
theorem c_X8_append (X : zw_X) (v0 : Nat) (v1 : Int32) (I : zI) (R : zR) (J : zJ) {P : Option Value → aS → Prop} (o : zI) (hf : f_X8_append v0 v1 I R = some o) (hk : P none (o, R, J)) : zw_C X M_X8_append 0 0 0 199 [.ref v0, .int v1] (I, R, J) P := by
  show zy_V X M_X8_append 0 P 0 [.ref v0, .int v1, .null] [] (I, R, J)
  unfold f_X8_append at hf
  refine zv_bipush (pc := 0) d_X8_append_0 zc_b_24 ?_
  refine zx_istore_n (pc := 2) (x2 := 24) (L2 := [.ref v0, .int v1, .int 24]) d_X8_append_2 (by decide) rfl rfl ?_
  obtain ⟨q9, hq9, hf⟩ := zw_bdE hf
  refine zx_weak (L' := [.ref v0, .int v1, .int 24]) (zw_leS (zw_leS (zw_leS zw_leZ))) (s_X8_append_3_lp X P v0 v1 R J _ _ _ hq9 ?_)
  show zy_V X M_X8_append 0 P 46 [.null, .null, .null] [] (q9, R, J)
  cases hf
  exact zx_vret (pc := 46) d_X8_append_46 rfl hk
abbrev M_X8_byteAt : zw_M := (⟨"CutStones$Tape", "byteAt", "(I)I"⟩, prog_10_method_4_code, 2, (Option.some Jvm.ClassFile.FieldType.int))
theorem d_X8_byteAt_0 : decode M_X8_byteAt.2.1 0 = .ok (.iload_n 1, 1) := by decide +kernel
theorem d_X8_byteAt_1 : decode M_X8_byteAt.2.1 1 = .ok (.ifCond .lt 24, 3) := by decide +kernel
theorem d_X8_byteAt_4 : decode M_X8_byteAt.2.1 4 = .ok (.iload_n 1, 1) := by decide +kernel
theorem d_X8_byteAt_5 : decode M_X8_byteAt.2.1 5 = .ok (.aload_n 0, 1) := by decide +kernel
theorem d_X8_byteAt_6 : decode M_X8_byteAt.2.1 6 = .ok (.getfield 15, 3) := by decide +kernel
theorem d_X8_byteAt_9 : decode M_X8_byteAt.2.1 9 = .ok (.if_icmp .ge 16, 3) := by decide +kernel
theorem d_X8_byteAt_12 : decode M_X8_byteAt.2.1 12 = .ok (.aload_n 0, 1) := by decide +kernel
theorem d_X8_byteAt_13 : decode M_X8_byteAt.2.1 13 = .ok (.getfield 9, 3) := by decide +kernel
theorem d_X8_byteAt_16 : decode M_X8_byteAt.2.1 16 = .ok (.iload_n 1, 1) := by decide +kernel
theorem d_X8_byteAt_17 : decode M_X8_byteAt.2.1 17 = .ok (.baload, 1) := by decide +kernel
theorem d_X8_byteAt_18 : decode M_X8_byteAt.2.1 18 = .ok (.sipush 255, 3) := by decide +kernel
theorem d_X8_byteAt_21 : decode M_X8_byteAt.2.1 21 = .ok (.iand, 1) := by decide +kernel
theorem d_X8_byteAt_22 : decode M_X8_byteAt.2.1 22 = .ok (.goto 4, 3) := by decide +kernel
theorem d_X8_byteAt_25 : decode M_X8_byteAt.2.1 25 = .ok (.iconst (-1), 1) := by decide +kernel
theorem d_X8_byteAt_26 : decode M_X8_byteAt.2.1 26 = .ok (.ireturn, 1) := by decide +kernel
theorem ce_X8_byteAt : zw_CeV M_X8_byteAt 1 := ⟨⟨⟨by decide +kernel, by decide +kernel, by decide +kernel⟩, (zw_mG (List.mem_of_getElem? (i := 548) (by decide +kernel)) rfl), (zw_mG (List.mem_of_getElem? (i := 97) (by decide +kernel)) rfl), by decide, by decide +kernel⟩, (zw_mG (List.mem_of_getElem? (i := 546) (by decide +kernel)) rfl), (zw_mG (List.mem_of_getElem? (i := 547) (by decide +kernel)) rfl)⟩
def f_X8_byteAt (v0 : Nat) (v1 : Int32) (I : zI) (R : zR) : Option (Int32) :=
  if v1 < 0 then some (-1) else zw_g (zw_gc v0 8) (if (I v0 1) ≤ v1 then some (-1) else zw_g (zw_gc (R v0 0) 12) (zw_g (zw_in v1 (zw_SH (R v0 0)).2) (some ((I (R v0 0) (Int32.toNatClampNeg v1)) &&& 255))))
theorem c_X8_byteAt (X : zw_X) (v0 : Nat) (v1 : Int32) (I : zI) (R : zR) (J : zJ) {P : Option Value → aS → Prop} (o : Int32) (hf : f_X8_byteAt v0 v1 I R = some o) (hk : P (some (.int o)) (I, R, J)) : zw_C X M_X8_byteAt 0 0 0 199 [.ref v0, .int v1] (I, R, J) P := by
  show zy_V X M_X8_byteAt 0 P 0 [.ref v0, .int v1] [] (I, R, J)
  unfold f_X8_byteAt at hf
  refine zv_iload_n (pc := 0) d_X8_byteAt_0 rfl ?_
  rcases zw_ifE hf with ⟨c1, hf⟩ | ⟨c1, hf⟩
  · refine zv_if_lt (pc := 1) (tg := 25) d_X8_byteAt_1 (by decide) (fun _ => ?_) (fun q => absurd c1 q)
    refine zv_iconst (pc := 25) d_X8_byteAt_25 zc_i_m1 ?_
    cases hf
    exact zx_iret (pc := 26) d_X8_byteAt_26 rfl hk
  · refine zv_if_lt (pc := 1) (tg := 25) d_X8_byteAt_1 (by decide) (fun q => absurd q c1) (fun _ => ?_)
    refine zv_iload_n (pc := 4) d_X8_byteAt_4 rfl ?_
    refine zv_aload_n (pc := 5) d_X8_byteAt_5 rfl ?_
    obtain ⟨g2, hf⟩ := zw_gcE hf (by decide)
    refine zx_getI (pc := 6) d_X8_byteAt_6 lk_CutStones_Tape_15 (by decide) g2 ?_
    rcases zw_ifE hf with ⟨c3, hf⟩ | ⟨c3, hf⟩
    · refine zv_icmp_ge (pc := 9) (tg := 25) d_X8_byteAt_9 (by decide) (fun _ => ?_) (fun q => absurd c3 q)
      refine zv_iconst (pc := 25) d_X8_byteAt_25 zc_i_m1 ?_
      cases hf
      exact zx_iret (pc := 26) d_X8_byteAt_26 rfl hk
    · refine zv_icmp_ge (pc := 9) (tg := 25) d_X8_byteAt_9 (by decide) (fun q => absurd q c3) (fun _ => ?_)
      refine zv_aload_n (pc := 12) d_X8_byteAt_12 rfl ?_
      obtain ⟨g4, hf⟩ := zw_gcE hf (by decide)
      refine zx_getR (pc := 13) d_X8_byteAt_13 lk_CutStones_Tape_9 (by decide) g2 g4 ?_
      refine zv_iload_n (pc := 16) d_X8_byteAt_16 rfl ?_
      obtain ⟨i5, hf⟩ := zw_inE hf
      refine zx_bald (pc := 17) d_X8_byteAt_17 g4 i5 ?_
      refine zv_sipush (pc := 18) d_X8_byteAt_18 zc_s_255 ?_
      refine zv_iand (pc := 21) d_X8_byteAt_21 ?_
      refine zv_goto (pc := 22) (tg := 26) d_X8_byteAt_22 (by decide) ?_
      cases hf
      exact zx_iret (pc := 26) d_X8_byteAt_26 rfl hk
abbrev M_X8_isBlank : zw_M := (⟨"CutStones$Tape", "isBlank", "(I)Z"⟩, prog_10_method_11_code, 1, (Option.some Jvm.ClassFile.FieldType.boolean))
theorem d_X8_isBlank_0 : decode M_X8_isBlank.2.1 0 = .ok (.iload_n 0, 1) := by decide +kernel
theorem d_X8_isBlank_1 : decode M_X8_isBlank.2.1 1 = .ok (.bipush 9, 2) := by decide +kernel
theorem d_X8_isBlank_3 : decode M_X8_isBlank.2.1 3 = .ok (.if_icmp .eq 21, 3) := by decide +kernel
theorem d_X8_isBlank_6 : decode M_X8_isBlank.2.1 6 = .ok (.iload_n 0, 1) := by decide +kernel
theorem d_X8_isBlank_7 : decode M_X8_isBlank.2.1 7 = .ok (.bipush 10, 2) := by decide +kernel
theorem d_X8_isBlank_9 : decode M_X8_isBlank.2.1 9 = .ok (.if_icmp .eq 15, 3) := by decide +kernel
theorem d_X8_isBlank_12 : decode M_X8_isBlank.2.1 12 = .ok (.iload_n 0, 1) := by decide +kernel
theorem d_X8_isBlank_13 : decode M_X8_isBlank.2.1 13 = .ok (.bipush 13, 2) := by decide +kernel
theorem d_X8_isBlank_15 : decode M_X8_isBlank.2.1 15 = .ok (.if_icmp .eq 9, 3) := by decide +kernel
theorem d_X8_isBlank_18 : decode M_X8_isBlank.2.1 18 = .ok (.iload_n 0, 1) := by decide +kernel
theorem d_X8_isBlank_19 : decode M_X8_isBlank.2.1 19 = .ok (.bipush 32, 2) := by decide +kernel
theorem d_X8_isBlank_21 : decode M_X8_isBlank.2.1 21 = .ok (.if_icmp .ne 7, 3) := by decide +kernel
theorem d_X8_isBlank_24 : decode M_X8_isBlank.2.1 24 = .ok (.iconst 1, 1) := by decide +kernel
theorem d_X8_isBlank_25 : decode M_X8_isBlank.2.1 25 = .ok (.goto 4, 3) := by decide +kernel
theorem d_X8_isBlank_28 : decode M_X8_isBlank.2.1 28 = .ok (.iconst 0, 1) := by decide +kernel
theorem d_X8_isBlank_29 : decode M_X8_isBlank.2.1 29 = .ok (.ireturn, 1) := by decide +kernel
theorem ce_X8_isBlank : zw_CeS M_X8_isBlank 1 := ⟨⟨⟨by decide +kernel, by decide +kernel, by decide +kernel⟩, (zw_mG (List.mem_of_getElem? (i := 551) (by decide +kernel)) rfl), (zw_mG (List.mem_of_getElem? (i := 97) (by decide +kernel)) rfl), by decide, by decide +kernel⟩, (zw_mG (List.mem_of_getElem? (i := 550) (by decide +kernel)) rfl)⟩
def j_X8_isBlank_24   : Option (Int32) :=
  some 1
theorem j_X8_isBlank_24_ok (X : zw_X) (P : Option Value → aS → Prop)  (I : zI) (R : zR) (J : zJ) (o : Int32) (hf : j_X8_isBlank_24  = some o) (hk : P (some (.int o)) (I, R, J)) : zy_V X M_X8_isBlank 0 P 24 [.null] [] (I, R, J) := by
  unfold j_X8_isBlank_24 at hf
  refine zv_iconst (pc := 24) d_X8_isBlank_24 zc_i_1 ?_
  refine zv_goto (pc := 25) (tg := 29) d_X8_isBlank_25 (by decide) ?_
  cases hf
  exact zx_zret (pc := 29) d_X8_isBlank_29 rfl (Or.inr rfl) hk
def f_X8_isBlank (v0 : Int32)  : Option (Int32) :=
  if v0 = 9 then j_X8_isBlank_24 else if v0 = 10 then j_X8_isBlank_24 else if v0 = 13 then j_X8_isBlank_24 else if ¬ v0 = 32 then some 0 else j_X8_isBlank_24
theorem c_X8_isBlank (X : zw_X) (v0 : Int32) (I : zI) (R : zR) (J : zJ) {P : Option Value → aS → Prop} (o : Int32) (hf : f_X8_isBlank v0  = some o) (hk : P (some (.int o)) (I, R, J)) : zw_C X M_X8_isBlank 0 0 0 199 [.int v0] (I, R, J) P := by
  show zy_V X M_X8_isBlank 0 P 0 [.int v0] [] (I, R, J)
  unfold f_X8_isBlank at hf
  refine zv_iload_n (pc := 0) d_X8_isBlank_0 rfl ?_
  refine zv_bipush (pc := 1) d_X8_isBlank_1 zc_b_9 ?_
  rcases zw_ifE hf with ⟨c1, hf⟩ | ⟨c1, hf⟩
  · refine zv_icmp_eq (pc := 3) (tg := 24) d_X8_isBlank_3 (by decide) (fun _ => ?_) (fun q => absurd c1 q)
    exact zx_weak (zw_leN zw_leZ) (j_X8_isBlank_24_ok X P I R J _ hf hk)
  · refine zv_icmp_eq (pc := 3) (tg := 24) d_X8_isBlank_3 (by decide) (fun q => absurd q c1) (fun _ => ?_)
    refine zv_iload_n (pc := 6) d_X8_isBlank_6 rfl ?_
    refine zv_bipush (pc := 7) d_X8_isBlank_7 zc_b_10 ?_
    rcases zw_ifE hf with ⟨c2, hf⟩ | ⟨c2, hf⟩
    · refine zv_icmp_eq (pc := 9) (tg := 24) d_X8_isBlank_9 (by decide) (fun _ => ?_) (fun q => absurd c2 q)
      exact zx_weak (zw_leN zw_leZ) (j_X8_isBlank_24_ok X P I R J _ hf hk)
    · refine zv_icmp_eq (pc := 9) (tg := 24) d_X8_isBlank_9 (by decide) (fun q => absurd q c2) (fun _ => ?_)
      refine zv_iload_n (pc := 12) d_X8_isBlank_12 rfl ?_
      refine zv_bipush (pc := 13) d_X8_isBlank_13 zc_b_13 ?_
      rcases zw_ifE hf with ⟨c3, hf⟩ | ⟨c3, hf⟩
      · refine zv_icmp_eq (pc := 15) (tg := 24) d_X8_isBlank_15 (by decide) (fun _ => ?_) (fun q => absurd c3 q)
        exact zx_weak (zw_leN zw_leZ) (j_X8_isBlank_24_ok X P I R J _ hf hk)
      · refine zv_icmp_eq (pc := 15) (tg := 24) d_X8_isBlank_15 (by decide) (fun q => absurd q c3) (fun _ => ?_)
        refine zv_iload_n (pc := 18) d_X8_isBlank_18 rfl ?_
        refine zv_bipush (pc := 19) d_X8_isBlank_19 zc_b_32 ?_
        rcases zw_ifE hf with ⟨c4, hf⟩ | ⟨c4, hf⟩
        · refine zv_icmp_ne (pc := 21) (tg := 28) d_X8_isBlank_21 (by decide) (fun _ => ?_) (fun q => absurd q c4)
          refine zv_iconst (pc := 28) d_X8_isBlank_28 zc_i_0 ?_
          cases hf
          exact zx_zret (pc := 29) d_X8_isBlank_29 rfl (Or.inl rfl) hk
        · refine zv_icmp_ne (pc := 21) (tg := 28) d_X8_isBlank_21 (by decide) (fun q => absurd q c4) (fun _ => ?_)
          exact zx_weak (zw_leN zw_leZ) (j_X8_isBlank_24_ok X P I R J _ hf hk)
abbrev M_X8_isDigit : zw_M := (⟨"CutStones$Tape", "isDigit", "(I)Z"⟩, prog_10_method_13_code, 1, (Option.some Jvm.ClassFile.FieldType.boolean))
theorem d_X8_isDigit_0 : decode M_X8_isDigit.2.1 0 = .ok (.iload_n 0, 1) := by decide +kernel
theorem d_X8_isDigit_1 : decode M_X8_isDigit.2.1 1 = .ok (.bipush 48, 2) := by decide +kernel
theorem d_X8_isDigit_3 : decode M_X8_isDigit.2.1 3 = .ok (.if_icmp .lt 13, 3) := by decide +kernel
theorem d_X8_isDigit_6 : decode M_X8_isDigit.2.1 6 = .ok (.iload_n 0, 1) := by decide +kernel
theorem d_X8_isDigit_7 : decode M_X8_isDigit.2.1 7 = .ok (.bipush 57, 2) := by decide +kernel
theorem d_X8_isDigit_9 : decode M_X8_isDigit.2.1 9 = .ok (.if_icmp .gt 7, 3) := by decide +kernel
theorem d_X8_isDigit_12 : decode M_X8_isDigit.2.1 12 = .ok (.iconst 1, 1) := by decide +kernel
theorem d_X8_isDigit_13 : decode M_X8_isDigit.2.1 13 = .ok (.goto 4, 3) := by decide +kernel
theorem d_X8_isDigit_16 : decode M_X8_isDigit.2.1 16 = .ok (.iconst 0, 1) := by decide +kernel
theorem d_X8_isDigit_17 : decode M_X8_isDigit.2.1 17 = .ok (.ireturn, 1) := by decide +kernel
theorem ce_X8_isDigit : zw_CeS M_X8_isDigit 1 := ⟨⟨⟨by decide +kernel, by decide +kernel, by decide +kernel⟩, (zw_mG (List.mem_of_getElem? (i := 619) (by decide +kernel)) rfl), (zw_mG (List.mem_of_getElem? (i := 97) (by decide +kernel)) rfl), by decide, by decide +kernel⟩, (zw_mG (List.mem_of_getElem? (i := 618) (by decide +kernel)) rfl)⟩
def f_X8_isDigit (v0 : Int32)  : Option (Int32) :=
  if v0 < 48 then some 0 else if 57 < v0 then some 0 else some 1
theorem c_X8_isDigit (X : zw_X) (v0 : Int32) (I : zI) (R : zR) (J : zJ) {P : Option Value → aS → Prop} (o : Int32) (hf : f_X8_isDigit v0  = some o) (hk : P (some (.int o)) (I, R, J)) : zw_C X M_X8_isDigit 0 0 0 199 [.int v0] (I, R, J) P := by
  show zy_V X M_X8_isDigit 0 P 0 [.int v0] [] (I, R, J)
  unfold f_X8_isDigit at hf
  refine zv_iload_n (pc := 0) d_X8_isDigit_0 rfl ?_
  refine zv_bipush (pc := 1) d_X8_isDigit_1 zc_b_48 ?_
  rcases zw_ifE hf with ⟨c1, hf⟩ | ⟨c1, hf⟩
  · refine zv_icmp_lt (pc := 3) (tg := 16) d_X8_isDigit_3 (by decide) (fun _ => ?_) (fun q => absurd c1 q)
    refine zv_iconst (pc := 16) d_X8_isDigit_16 zc_i_0 ?_
    cases hf
    exact zx_zret (pc := 17) d_X8_isDigit_17 rfl (Or.inl rfl) hk
  · refine zv_icmp_lt (pc := 3) (tg := 16) d_X8_isDigit_3 (by decide) (fun q => absurd q c1) (fun _ => ?_)
    refine zv_iload_n (pc := 6) d_X8_isDigit_6 rfl ?_
    refine zv_bipush (pc := 7) d_X8_isDigit_7 zc_b_57 ?_
    rcases zw_ifE hf with ⟨c2, hf⟩ | ⟨c2, hf⟩
    · refine zv_icmp_gt (pc := 9) (tg := 16) d_X8_isDigit_9 (by decide) (fun _ => ?_) (fun q => absurd c2 q)
      refine zv_iconst (pc := 16) d_X8_isDigit_16 zc_i_0 ?_
      cases hf
      exact zx_zret (pc := 17) d_X8_isDigit_17 rfl (Or.inl rfl) hk
    · refine zv_icmp_gt (pc := 9) (tg := 16) d_X8_isDigit_9 (by decide) (fun q => absurd q c2) (fun _ => ?_)
      refine zv_iconst (pc := 12) d_X8_isDigit_12 zc_i_1 ?_
      refine zv_goto (pc := 13) (tg := 17) d_X8_isDigit_13 (by decide) ?_
      cases hf
      exact zx_zret (pc := 17) d_X8_isDigit_17 rfl (Or.inr rfl) hk
abbrev M_X8_isLetter : zw_M := (⟨"CutStones$Tape", "isLetter", "(I)Z"⟩, prog_10_method_12_code, 1, (Option.some Jvm.ClassFile.FieldType.boolean))
theorem d_X8_isLetter_0 : decode M_X8_isLetter.2.1 0 = .ok (.iload_n 0, 1) := by decide +kernel
theorem d_X8_isLetter_1 : decode M_X8_isLetter.2.1 1 = .ok (.bipush 97, 2) := by decide +kernel
theorem d_X8_isLetter_3 : decode M_X8_isLetter.2.1 3 = .ok (.if_icmp .lt 13, 3) := by decide +kernel
theorem d_X8_isLetter_6 : decode M_X8_isLetter.2.1 6 = .ok (.iload_n 0, 1) := by decide +kernel
theorem d_X8_isLetter_7 : decode M_X8_isLetter.2.1 7 = .ok (.bipush 122, 2) := by decide +kernel
theorem d_X8_isLetter_9 : decode M_X8_isLetter.2.1 9 = .ok (.if_icmp .gt 7, 3) := by decide +kernel
theorem d_X8_isLetter_12 : decode M_X8_isLetter.2.1 12 = .ok (.iconst 1, 1) := by decide +kernel
theorem d_X8_isLetter_13 : decode M_X8_isLetter.2.1 13 = .ok (.goto 4, 3) := by decide +kernel
theorem d_X8_isLetter_16 : decode M_X8_isLetter.2.1 16 = .ok (.iconst 0, 1) := by decide +kernel
theorem d_X8_isLetter_17 : decode M_X8_isLetter.2.1 17 = .ok (.ireturn, 1) := by decide +kernel
theorem ce_X8_isLetter : zw_CeS M_X8_isLetter 1 := ⟨⟨⟨by decide +kernel, by decide +kernel, by decide +kernel⟩, (zw_mG (List.mem_of_getElem? (i := 558) (by decide +kernel)) rfl), (zw_mG (List.mem_of_getElem? (i := 97) (by decide +kernel)) rfl), by decide, by decide +kernel⟩, (zw_mG (List.mem_of_getElem? (i := 557) (by decide +kernel)) rfl)⟩
def f_X8_isLetter (v0 : Int32)  : Option (Int32) :=
  if v0 < 97 then some 0 else if 122 < v0 then some 0 else some 1
theorem c_X8_isLetter (X : zw_X) (v0 : Int32) (I : zI) (R : zR) (J : zJ) {P : Option Value → aS → Prop} (o : Int32) (hf : f_X8_isLetter v0  = some o) (hk : P (some (.int o)) (I, R, J)) : zw_C X M_X8_isLetter 0 0 0 199 [.int v0] (I, R, J) P := by
  show zy_V X M_X8_isLetter 0 P 0 [.int v0] [] (I, R, J)
  unfold f_X8_isLetter at hf
  refine zv_iload_n (pc := 0) d_X8_isLetter_0 rfl ?_
  refine zv_bipush (pc := 1) d_X8_isLetter_1 zc_b_97 ?_
  rcases zw_ifE hf with ⟨c1, hf⟩ | ⟨c1, hf⟩
  · refine zv_icmp_lt (pc := 3) (tg := 16) d_X8_isLetter_3 (by decide) (fun _ => ?_) (fun q => absurd c1 q)
    refine zv_iconst (pc := 16) d_X8_isLetter_16 zc_i_0 ?_
    cases hf
    exact zx_zret (pc := 17) d_X8_isLetter_17 rfl (Or.inl rfl) hk
  · refine zv_icmp_lt (pc := 3) (tg := 16) d_X8_isLetter_3 (by decide) (fun q => absurd q c1) (fun _ => ?_)
    refine zv_iload_n (pc := 6) d_X8_isLetter_6 rfl ?_
    refine zv_bipush (pc := 7) d_X8_isLetter_7 zc_b_122 ?_
    rcases zw_ifE hf with ⟨c2, hf⟩ | ⟨c2, hf⟩
    · refine zv_icmp_gt (pc := 9) (tg := 16) d_X8_isLetter_9 (by decide) (fun _ => ?_) (fun q => absurd c2 q)
      refine zv_iconst (pc := 16) d_X8_isLetter_16 zc_i_0 ?_
      cases hf
      exact zx_zret (pc := 17) d_X8_isLetter_17 rfl (Or.inl rfl) hk
    · refine zv_icmp_gt (pc := 9) (tg := 16) d_X8_isLetter_9 (by decide) (fun q => absurd q c2) (fun _ => ?_)
      refine zv_iconst (pc := 12) d_X8_isLetter_12 zc_i_1 ?_
      refine zv_goto (pc := 13) (tg := 17) d_X8_isLetter_13 (by decide) ?_
      cases hf
      exact zx_zret (pc := 17) d_X8_isLetter_17 rfl (Or.inr rfl) hk
abbrev M_X9_addTest : zw_M := (⟨"CutStones$Tests", "addTest", "(III)I"⟩, prog_11_method_2_code, 4, (Option.some Jvm.ClassFile.FieldType.int))
theorem d_X9_addTest_0 : decode M_X9_addTest.2.1 0 = .ok (.aload_n 0, 1) := by decide +kernel
theorem d_X9_addTest_1 : decode M_X9_addTest.2.1 1 = .ok (.getfield 9, 3) := by decide +kernel
theorem d_X9_addTest_4 : decode M_X9_addTest.2.1 4 = .ok (.bipush 60, 2) := by decide +kernel
theorem d_X9_addTest_6 : decode M_X9_addTest.2.1 6 = .ok (.if_icmp .lt 5, 3) := by decide +kernel
theorem d_X9_addTest_9 : decode M_X9_addTest.2.1 9 = .ok (.iconst (-1), 1) := by decide +kernel
theorem d_X9_addTest_10 : decode M_X9_addTest.2.1 10 = .ok (.ireturn, 1) := by decide +kernel
theorem d_X9_addTest_11 : decode M_X9_addTest.2.1 11 = .ok (.aload_n 0, 1) := by decide +kernel
theorem d_X9_addTest_12 : decode M_X9_addTest.2.1 12 = .ok (.getfield 15, 3) := by decide +kernel
theorem d_X9_addTest_15 : decode M_X9_addTest.2.1 15 = .ok (.aload_n 0, 1) := by decide +kernel
theorem d_X9_addTest_16 : decode M_X9_addTest.2.1 16 = .ok (.getfield 9, 3) := by decide +kernel
theorem d_X9_addTest_19 : decode M_X9_addTest.2.1 19 = .ok (.iload_n 1, 1) := by decide +kernel
theorem d_X9_addTest_20 : decode M_X9_addTest.2.1 20 = .ok (.iastore, 1) := by decide +kernel
theorem d_X9_addTest_21 : decode M_X9_addTest.2.1 21 = .ok (.aload_n 0, 1) := by decide +kernel
theorem d_X9_addTest_22 : decode M_X9_addTest.2.1 22 = .ok (.getfield 19, 3) := by decide +kernel
theorem d_X9_addTest_25 : decode M_X9_addTest.2.1 25 = .ok (.aload_n 0, 1) := by decide +kernel
theorem d_X9_addTest_26 : decode M_X9_addTest.2.1 26 = .ok (.getfield 9, 3) := by decide +kernel
theorem d_X9_addTest_29 : decode M_X9_addTest.2.1 29 = .ok (.iload_n 2, 1) := by decide +kernel
theorem d_X9_addTest_30 : decode M_X9_addTest.2.1 30 = .ok (.iastore, 1) := by decide +kernel
theorem d_X9_addTest_31 : decode M_X9_addTest.2.1 31 = .ok (.aload_n 0, 1) := by decide +kernel
theorem d_X9_addTest_32 : decode M_X9_addTest.2.1 32 = .ok (.getfield 22, 3) := by decide +kernel
theorem d_X9_addTest_35 : decode M_X9_addTest.2.1 35 = .ok (.aload_n 0, 1) := by decide +kernel
theorem d_X9_addTest_36 : decode M_X9_addTest.2.1 36 = .ok (.getfield 9, 3) := by decide +kernel
theorem d_X9_addTest_39 : decode M_X9_addTest.2.1 39 = .ok (.iload_n 3, 1) := by decide +kernel
theorem d_X9_addTest_40 : decode M_X9_addTest.2.1 40 = .ok (.iastore, 1) := by decide +kernel
theorem d_X9_addTest_41 : decode M_X9_addTest.2.1 41 = .ok (.aload_n 0, 1) := by decide +kernel
theorem d_X9_addTest_42 : decode M_X9_addTest.2.1 42 = .ok (.getfield 25, 3) := by decide +kernel
theorem d_X9_addTest_45 : decode M_X9_addTest.2.1 45 = .ok (.aload_n 0, 1) := by decide +kernel
theorem d_X9_addTest_46 : decode M_X9_addTest.2.1 46 = .ok (.getfield 9, 3) := by decide +kernel
theorem d_X9_addTest_49 : decode M_X9_addTest.2.1 49 = .ok (.iconst (-1), 1) := by decide +kernel
theorem d_X9_addTest_50 : decode M_X9_addTest.2.1 50 = .ok (.iastore, 1) := by decide +kernel
theorem d_X9_addTest_51 : decode M_X9_addTest.2.1 51 = .ok (.aload_n 0, 1) := by decide +kernel
theorem d_X9_addTest_52 : decode M_X9_addTest.2.1 52 = .ok (.dup, 1) := by decide +kernel
theorem d_X9_addTest_53 : decode M_X9_addTest.2.1 53 = .ok (.getfield 9, 3) := by decide +kernel
theorem d_X9_addTest_56 : decode M_X9_addTest.2.1 56 = .ok (.iconst 1, 1) := by decide +kernel
theorem d_X9_addTest_57 : decode M_X9_addTest.2.1 57 = .ok (.iadd, 1) := by decide +kernel
theorem d_X9_addTest_58 : decode M_X9_addTest.2.1 58 = .ok (.putfield 9, 3) := by decide +kernel
theorem d_X9_addTest_61 : decode M_X9_addTest.2.1 61 = .ok (.aload_n 0, 1) := by decide +kernel
theorem d_X9_addTest_62 : decode M_X9_addTest.2.1 62 = .ok (.getfield 9, 3) := by decide +kernel
theorem d_X9_addTest_65 : decode M_X9_addTest.2.1 65 = .ok (.iconst 1, 1) := by decide +kernel
theorem d_X9_addTest_66 : decode M_X9_addTest.2.1 66 = .ok (.isub, 1) := by decide +kernel
theorem d_X9_addTest_67 : decode M_X9_addTest.2.1 67 = .ok (.ireturn, 1) := by decide +kernel
theorem ce_X9_addTest : zw_CeV M_X9_addTest 3 := ⟨⟨⟨by decide +kernel, by decide +kernel, by decide +kernel⟩, (zw_mG (List.mem_of_getElem? (i := 1081) (by decide +kernel)) rfl), (zw_mG (List.mem_of_getElem? (i := 106) (by decide +kernel)) rfl), by decide, by decide +kernel⟩, (zw_mG (List.mem_of_getElem? (i := 1079) (by decide +kernel)) rfl), (zw_mG (List.mem_of_getElem? (i := 1080) (by decide +kernel)) rfl)⟩
def f_X9_addTest (v0 : Nat) (v1 : Int32) (v2 : Int32) (v3 : Int32) (I : zI) (R : zR) : Option (Int32 × zI) :=
  zw_g (zw_gc v0 9) (if (I v0 0) < 60 then zw_g (zw_gc (R v0 1) 13) (zw_g (zw_in (I v0 0) (zw_SH (R v0 1)).2) (zw_let (zw_u I (R v0 1) (Int32.toNatClampNeg (I v0 0)) v1 : zI) fun I5 => (zw_g (zw_gc (R v0 2) 13) (zw_g (zw_in (I5 v0 0) (zw_SH (R v0 2)).2) (zw_let (zw_u I5 (R v0 2) (Int32.toNatClampNeg (I5 v0 0)) v2 : zI) fun I8 => (zw_g (zw_gc (R v0 3) 13) (zw_g (zw_in (I8 v0 0) (zw_SH (R v0 3)).2) (zw_let (zw_u I8 (R v0 3) (Int32.toNatClampNeg (I8 v0 0)) v3 : zI) fun I11 => (zw_g (zw_gc (R v0 4) 13) (zw_g (zw_in (I11 v0 0) (zw_SH (R v0 4)).2) (zw_let (zw_u I11 (R v0 4) (Int32.toNatClampNeg (I11 v0 0)) (-1) : zI) fun I14 => (zw_let (zw_u I14 v0 0 ((I14 v0 0) + 1) : zI) fun I15 => (some (((I15 v0 0) - 1), I15)))))))))))))) else some ((-1), I))
theorem c_X9_addTest (X : zw_X) (v0 : Nat) (v1 : Int32) (v2 : Int32) (v3 : Int32) (I : zI) (R : zR) (J : zJ) {P : Option Value → aS → Prop} (o : Int32 × zI) (hf : f_X9_addTest v0 v1 v2 v3 I R = some o) (hk : P (some (.int o.1)) (o.2, R, J)) : zw_C X M_X9_addTest 0 0 0 199 [.ref v0, .int v1, .int v2, .int v3] (I, R, J) P := by
  show zy_V X M_X9_addTest 0 P 0 [.ref v0, .int v1, .int v2, .int v3] [] (I, R, J)
  unfold f_X9_addTest at hf
  refine zv_aload_n (pc := 0) d_X9_addTest_0 rfl ?_
  obtain ⟨g1, hf⟩ := zw_gcE hf (by decide)
  refine zx_getI (pc := 1) d_X9_addTest_1 lk_CutStones_Tests_9 (by decide) g1 ?_
  refine zv_bipush (pc := 4) d_X9_addTest_4 zc_b_60 ?_
  rcases zw_ifE hf with ⟨c2, hf⟩ | ⟨c2, hf⟩
  · refine zv_icmp_lt (pc := 6) (tg := 11) d_X9_addTest_6 (by decide) (fun _ => ?_) (fun q => absurd c2 q)
    refine zv_aload_n (pc := 11) d_X9_addTest_11 rfl ?_
    obtain ⟨g3, hf⟩ := zw_gcE hf (by decide)
    refine zx_getR (pc := 12) d_X9_addTest_12 lk_CutStones_Tests_15 (by decide) g1 g3 ?_
    refine zv_aload_n (pc := 15) d_X9_addTest_15 rfl ?_
    refine zx_getI (pc := 16) d_X9_addTest_16 lk_CutStones_Tests_9 (by decide) g1 ?_
    refine zv_iload_n (pc := 19) d_X9_addTest_19 rfl ?_
    obtain ⟨i4, hf⟩ := zw_inE hf
    obtain ⟨I5, eI5, hf⟩ := zw_letE hf
    refine zx_iast (pc := 20) (I2 := I5) d_X9_addTest_20 g3 i4 eI5 ?_
    refine zv_aload_n (pc := 21) d_X9_addTest_21 rfl ?_
    obtain ⟨g6, hf⟩ := zw_gcE hf (by decide)
    refine zx_getR (pc := 22) d_X9_addTest_22 lk_CutStones_Tests_19 (by decide) g1 g6 ?_
    refine zv_aload_n (pc := 25) d_X9_addTest_25 rfl ?_
    refine zx_getI (pc := 26) d_X9_addTest_26 lk_CutStones_Tests_9 (by decide) g1 ?_
    refine zv_iload_n (pc := 29) d_X9_addTest_29 rfl ?_
    obtain ⟨i7, hf⟩ := zw_inE hf
    obtain ⟨I8, eI8, hf⟩ := zw_letE hf
    refine zx_iast (pc := 30) (I2 := I8) d_X9_addTest_30 g6 i7 eI8 ?_
    refine zv_aload_n (pc := 31) d_X9_addTest_31 rfl ?_
    obtain ⟨g9, hf⟩ := zw_gcE hf (by decide)
    refine zx_getR (pc := 32) d_X9_addTest_32 lk_CutStones_Tests_22 (by decide) g1 g9 ?_
    refine zv_aload_n (pc := 35) d_X9_addTest_35 rfl ?_
    refine zx_getI (pc := 36) d_X9_addTest_36 lk_CutStones_Tests_9 (by decide) g1 ?_
    refine zv_iload_n (pc := 39) d_X9_addTest_39 rfl ?_
    obtain ⟨i10, hf⟩ := zw_inE hf
    obtain ⟨I11, eI11, hf⟩ := zw_letE hf
    refine zx_iast (pc := 40) (I2 := I11) d_X9_addTest_40 g9 i10 eI11 ?_
    refine zv_aload_n (pc := 41) d_X9_addTest_41 rfl ?_
    obtain ⟨g12, hf⟩ := zw_gcE hf (by decide)
    refine zx_getR (pc := 42) d_X9_addTest_42 lk_CutStones_Tests_25 (by decide) g1 g12 ?_
    refine zv_aload_n (pc := 45) d_X9_addTest_45 rfl ?_
    refine zx_getI (pc := 46) d_X9_addTest_46 lk_CutStones_Tests_9 (by decide) g1 ?_
    refine zv_iconst (pc := 49) d_X9_addTest_49 zc_i_m1 ?_
    obtain ⟨i13, hf⟩ := zw_inE hf
    obtain ⟨I14, eI14, hf⟩ := zw_letE hf
    refine zx_iast (pc := 50) (I2 := I14) d_X9_addTest_50 g12 i13 eI14 ?_
    refine zv_aload_n (pc := 51) d_X9_addTest_51 rfl ?_
    refine zv_dup (pc := 52) d_X9_addTest_52 rfl ?_
    refine zx_getI (pc := 53) d_X9_addTest_53 lk_CutStones_Tests_9 (by decide) g1 ?_
    refine zv_iconst (pc := 56) d_X9_addTest_56 zc_i_1 ?_
    refine zv_iadd (pc := 57) d_X9_addTest_57 ?_
    obtain ⟨I15, eI15, hf⟩ := zw_letE hf
    refine zx_putI (pc := 58) (I2 := I15) d_X9_addTest_58 lk_CutStones_Tests_9 rfl g1 eI15 ?_
    refine zv_aload_n (pc := 61) d_X9_addTest_61 rfl ?_
    refine zx_getI (pc := 62) d_X9_addTest_62 lk_CutStones_Tests_9 (by decide) g1 ?_
    refine zv_iconst (pc := 65) d_X9_addTest_65 zc_i_1 ?_
    refine zv_isub (pc := 66) d_X9_addTest_66 ?_
    cases hf
    exact zx_iret (pc := 67) d_X9_addTest_67 rfl hk
  · refine zv_icmp_lt (pc := 6) (tg := 11) d_X9_addTest_6 (by decide) (fun q => absurd q c2) (fun _ => ?_)
    refine zv_iconst (pc := 9) d_X9_addTest_9 zc_i_m1 ?_
    cases hf
    exact zx_iret (pc := 10) d_X9_addTest_10 rfl hk
abbrev M_X9_addVoid : zw_M := (⟨"CutStones$Tests", "addVoid", "(I)I"⟩, prog_11_method_3_code, 2, (Option.some Jvm.ClassFile.FieldType.int))
theorem d_X9_addVoid_0 : decode M_X9_addVoid.2.1 0 = .ok (.aload_n 0, 1) := by decide +kernel
theorem d_X9_addVoid_1 : decode M_X9_addVoid.2.1 1 = .ok (.getfield 9, 3) := by decide +kernel
theorem d_X9_addVoid_4 : decode M_X9_addVoid.2.1 4 = .ok (.bipush 60, 2) := by decide +kernel
theorem d_X9_addVoid_6 : decode M_X9_addVoid.2.1 6 = .ok (.if_icmp .ge 25, 3) := by decide +kernel
theorem d_X9_addVoid_9 : decode M_X9_addVoid.2.1 9 = .ok (.iload_n 1, 1) := by decide +kernel
theorem d_X9_addVoid_10 : decode M_X9_addVoid.2.1 10 = .ok (.ifCond .lt 21, 3) := by decide +kernel
theorem d_X9_addVoid_13 : decode M_X9_addVoid.2.1 13 = .ok (.iload_n 1, 1) := by decide +kernel
theorem d_X9_addVoid_14 : decode M_X9_addVoid.2.1 14 = .ok (.aload_n 0, 1) := by decide +kernel
theorem d_X9_addVoid_15 : decode M_X9_addVoid.2.1 15 = .ok (.getfield 9, 3) := by decide +kernel
theorem d_X9_addVoid_18 : decode M_X9_addVoid.2.1 18 = .ok (.if_icmp .ge 13, 3) := by decide +kernel
theorem d_X9_addVoid_21 : decode M_X9_addVoid.2.1 21 = .ok (.aload_n 0, 1) := by decide +kernel
theorem d_X9_addVoid_22 : decode M_X9_addVoid.2.1 22 = .ok (.getfield 25, 3) := by decide +kernel
theorem d_X9_addVoid_25 : decode M_X9_addVoid.2.1 25 = .ok (.iload_n 1, 1) := by decide +kernel
theorem d_X9_addVoid_26 : decode M_X9_addVoid.2.1 26 = .ok (.iaload, 1) := by decide +kernel
theorem d_X9_addVoid_27 : decode M_X9_addVoid.2.1 27 = .ok (.iconst (-1), 1) := by decide +kernel
theorem d_X9_addVoid_28 : decode M_X9_addVoid.2.1 28 = .ok (.if_icmp .eq 5, 3) := by decide +kernel
theorem d_X9_addVoid_31 : decode M_X9_addVoid.2.1 31 = .ok (.iconst (-1), 1) := by decide +kernel
theorem d_X9_addVoid_32 : decode M_X9_addVoid.2.1 32 = .ok (.ireturn, 1) := by decide +kernel
theorem d_X9_addVoid_33 : decode M_X9_addVoid.2.1 33 = .ok (.aload_n 0, 1) := by decide +kernel
theorem d_X9_addVoid_34 : decode M_X9_addVoid.2.1 34 = .ok (.getfield 25, 3) := by decide +kernel
theorem d_X9_addVoid_37 : decode M_X9_addVoid.2.1 37 = .ok (.aload_n 0, 1) := by decide +kernel
theorem d_X9_addVoid_38 : decode M_X9_addVoid.2.1 38 = .ok (.getfield 9, 3) := by decide +kernel
theorem d_X9_addVoid_41 : decode M_X9_addVoid.2.1 41 = .ok (.iload_n 1, 1) := by decide +kernel
theorem d_X9_addVoid_42 : decode M_X9_addVoid.2.1 42 = .ok (.iastore, 1) := by decide +kernel
theorem d_X9_addVoid_43 : decode M_X9_addVoid.2.1 43 = .ok (.aload_n 0, 1) := by decide +kernel
theorem d_X9_addVoid_44 : decode M_X9_addVoid.2.1 44 = .ok (.dup, 1) := by decide +kernel
theorem d_X9_addVoid_45 : decode M_X9_addVoid.2.1 45 = .ok (.getfield 9, 3) := by decide +kernel
theorem d_X9_addVoid_48 : decode M_X9_addVoid.2.1 48 = .ok (.iconst 1, 1) := by decide +kernel
theorem d_X9_addVoid_49 : decode M_X9_addVoid.2.1 49 = .ok (.iadd, 1) := by decide +kernel
theorem d_X9_addVoid_50 : decode M_X9_addVoid.2.1 50 = .ok (.putfield 9, 3) := by decide +kernel
theorem d_X9_addVoid_53 : decode M_X9_addVoid.2.1 53 = .ok (.aload_n 0, 1) := by decide +kernel
theorem d_X9_addVoid_54 : decode M_X9_addVoid.2.1 54 = .ok (.getfield 9, 3) := by decide +kernel
theorem d_X9_addVoid_57 : decode M_X9_addVoid.2.1 57 = .ok (.iconst 1, 1) := by decide +kernel
theorem d_X9_addVoid_58 : decode M_X9_addVoid.2.1 58 = .ok (.isub, 1) := by decide +kernel
theorem d_X9_addVoid_59 : decode M_X9_addVoid.2.1 59 = .ok (.ireturn, 1) := by decide +kernel
theorem ce_X9_addVoid : zw_CeV M_X9_addVoid 1 := ⟨⟨⟨by decide +kernel, by decide +kernel, by decide +kernel⟩, (zw_mG (List.mem_of_getElem? (i := 1089) (by decide +kernel)) rfl), (zw_mG (List.mem_of_getElem? (i := 106) (by decide +kernel)) rfl), by decide, by decide +kernel⟩, (zw_mG (List.mem_of_getElem? (i := 1087) (by decide +kernel)) rfl), (zw_mG (List.mem_of_getElem? (i := 1088) (by decide +kernel)) rfl)⟩
def f_X9_addVoid (v0 : Nat) (v1 : Int32) (I : zI) (R : zR) : Option (Int32 × zI) :=
  zw_g (zw_gc v0 9) (if 60 ≤ (I v0 0) then some ((-1), I) else if v1 < 0 then some ((-1), I) else if (I v0 0) ≤ v1 then some ((-1), I) else zw_g (zw_gc (R v0 4) 13) (zw_g (zw_in v1 (zw_SH (R v0 4)).2) (if (I (R v0 4) (Int32.toNatClampNeg v1)) = (-1) then zw_g (zw_in (I v0 0) (zw_SH (R v0 4)).2) (zw_let (zw_u I (R v0 4) (Int32.toNatClampNeg (I v0 0)) v1 : zI) fun I9 => (zw_let (zw_u I9 v0 0 ((I9 v0 0) + 1) : zI) fun I10 => (some (((I10 v0 0) - 1), I10)))) else some ((-1), I))))
theorem c_X9_addVoid (X : zw_X) (v0 : Nat) (v1 : Int32) (I : zI) (R : zR) (J : zJ) {P : Option Value → aS → Prop} (o : Int32 × zI) (hf : f_X9_addVoid v0 v1 I R = some o) (hk : P (some (.int o.1)) (o.2, R, J)) : zw_C X M_X9_addVoid 0 0 0 199 [.ref v0, .int v1] (I, R, J) P := by
  show zy_V X M_X9_addVoid 0 P 0 [.ref v0, .int v1] [] (I, R, J)
  unfold f_X9_addVoid at hf
  refine zv_aload_n (pc := 0) d_X9_addVoid_0 rfl ?_
  obtain ⟨g1, hf⟩ := zw_gcE hf (by decide)
  refine zx_getI (pc := 1) d_X9_addVoid_1 lk_CutStones_Tests_9 (by decide) g1 ?_
  refine zv_bipush (pc := 4) d_X9_addVoid_4 zc_b_60 ?_
  rcases zw_ifE hf with ⟨c2, hf⟩ | ⟨c2, hf⟩
  · refine zv_icmp_ge (pc := 6) (tg := 31) d_X9_addVoid_6 (by decide) (fun _ => ?_) (fun q => absurd c2 q)
    refine zv_iconst (pc := 31) d_X9_addVoid_31 zc_i_m1 ?_
    cases hf
    exact zx_iret (pc := 32) d_X9_addVoid_32 rfl hk
  · refine zv_icmp_ge (pc := 6) (tg := 31) d_X9_addVoid_6 (by decide) (fun q => absurd q c2) (fun _ => ?_)
    refine zv_iload_n (pc := 9) d_X9_addVoid_9 rfl ?_
    rcases zw_ifE hf with ⟨c3, hf⟩ | ⟨c3, hf⟩
    · refine zv_if_lt (pc := 10) (tg := 31) d_X9_addVoid_10 (by decide) (fun _ => ?_) (fun q => absurd c3 q)
      refine zv_iconst (pc := 31) d_X9_addVoid_31 zc_i_m1 ?_
      cases hf
      exact zx_iret (pc := 32) d_X9_addVoid_32 rfl hk
    · refine zv_if_lt (pc := 10) (tg := 31) d_X9_addVoid_10 (by decide) (fun q => absurd q c3) (fun _ => ?_)
      refine zv_iload_n (pc := 13) d_X9_addVoid_13 rfl ?_
      refine zv_aload_n (pc := 14) d_X9_addVoid_14 rfl ?_
      refine zx_getI (pc := 15) d_X9_addVoid_15 lk_CutStones_Tests_9 (by decide) g1 ?_
      rcases zw_ifE hf with ⟨c4, hf⟩ | ⟨c4, hf⟩
      · refine zv_icmp_ge (pc := 18) (tg := 31) d_X9_addVoid_18 (by decide) (fun _ => ?_) (fun q => absurd c4 q)
        refine zv_iconst (pc := 31) d_X9_addVoid_31 zc_i_m1 ?_
        cases hf
        exact zx_iret (pc := 32) d_X9_addVoid_32 rfl hk
      · refine zv_icmp_ge (pc := 18) (tg := 31) d_X9_addVoid_18 (by decide) (fun q => absurd q c4) (fun _ => ?_)
        refine zv_aload_n (pc := 21) d_X9_addVoid_21 rfl ?_
        obtain ⟨g5, hf⟩ := zw_gcE hf (by decide)
        refine zx_getR (pc := 22) d_X9_addVoid_22 lk_CutStones_Tests_25 (by decide) g1 g5 ?_
        refine zv_iload_n (pc := 25) d_X9_addVoid_25 rfl ?_
        obtain ⟨i6, hf⟩ := zw_inE hf
        refine zx_iald (pc := 26) d_X9_addVoid_26 g5 i6 ?_
        refine zv_iconst (pc := 27) d_X9_addVoid_27 zc_i_m1 ?_
        rcases zw_ifE hf with ⟨c7, hf⟩ | ⟨c7, hf⟩
        · refine zv_icmp_eq (pc := 28) (tg := 33) d_X9_addVoid_28 (by decide) (fun _ => ?_) (fun q => absurd c7 q)
          refine zv_aload_n (pc := 33) d_X9_addVoid_33 rfl ?_
          refine zx_getR (pc := 34) d_X9_addVoid_34 lk_CutStones_Tests_25 (by decide) g1 g5 ?_
          refine zv_aload_n (pc := 37) d_X9_addVoid_37 rfl ?_
          refine zx_getI (pc := 38) d_X9_addVoid_38 lk_CutStones_Tests_9 (by decide) g1 ?_
          refine zv_iload_n (pc := 41) d_X9_addVoid_41 rfl ?_
          obtain ⟨i8, hf⟩ := zw_inE hf
          obtain ⟨I9, eI9, hf⟩ := zw_letE hf
          refine zx_iast (pc := 42) (I2 := I9) d_X9_addVoid_42 g5 i8 eI9 ?_
          refine zv_aload_n (pc := 43) d_X9_addVoid_43 rfl ?_
          refine zv_dup (pc := 44) d_X9_addVoid_44 rfl ?_
          refine zx_getI (pc := 45) d_X9_addVoid_45 lk_CutStones_Tests_9 (by decide) g1 ?_
          refine zv_iconst (pc := 48) d_X9_addVoid_48 zc_i_1 ?_
          refine zv_iadd (pc := 49) d_X9_addVoid_49 ?_
          obtain ⟨I10, eI10, hf⟩ := zw_letE hf
          refine zx_putI (pc := 50) (I2 := I10) d_X9_addVoid_50 lk_CutStones_Tests_9 rfl g1 eI10 ?_
          refine zv_aload_n (pc := 53) d_X9_addVoid_53 rfl ?_
          refine zx_getI (pc := 54) d_X9_addVoid_54 lk_CutStones_Tests_9 (by decide) g1 ?_
          refine zv_iconst (pc := 57) d_X9_addVoid_57 zc_i_1 ?_
          refine zv_isub (pc := 58) d_X9_addVoid_58 ?_
          cases hf
          exact zx_iret (pc := 59) d_X9_addVoid_59 rfl hk
        · refine zv_icmp_eq (pc := 28) (tg := 33) d_X9_addVoid_28 (by decide) (fun q => absurd q c7) (fun _ => ?_)
          refine zv_iconst (pc := 31) d_X9_addVoid_31 zc_i_m1 ?_
          cases hf
          exact zx_iret (pc := 32) d_X9_addVoid_32 rfl hk
