abbrev M_X11_isAsked : zw_M := (⟨"CutStonesModel", "isAsked", "(III)Z"⟩, prog_13_method_72_code, 4, (Option.some Jvm.ClassFile.FieldType.boolean))
theorem d_X11_isAsked_0 : decode M_X11_isAsked.2.1 0 = .ok (.iload_n 1, 1) := by decide +kernel
theorem d_X11_isAsked_1 : decode M_X11_isAsked.2.1 1 = .ok (.ifCond .lt 40, 3) := by decide +kernel
theorem d_X11_isAsked_4 : decode M_X11_isAsked.2.1 4 = .ok (.iload_n 1, 1) := by decide +kernel
theorem d_X11_isAsked_5 : decode M_X11_isAsked.2.1 5 = .ok (.iconst 1, 1) := by decide +kernel
theorem d_X11_isAsked_6 : decode M_X11_isAsked.2.1 6 = .ok (.aload_n 0, 1) := by decide +kernel
theorem d_X11_isAsked_7 : decode M_X11_isAsked.2.1 7 = .ok (.getfield 58, 3) := by decide +kernel
theorem d_X11_isAsked_10 : decode M_X11_isAsked.2.1 10 = .ok (.aload_n 0, 1) := by decide +kernel
theorem d_X11_isAsked_11 : decode M_X11_isAsked.2.1 11 = .ok (.getfield 248, 3) := by decide +kernel
theorem d_X11_isAsked_14 : decode M_X11_isAsked.2.1 14 = .ok (.iaload, 1) := by decide +kernel
theorem d_X11_isAsked_15 : decode M_X11_isAsked.2.1 15 = .ok (.ishl, 1) := by decide +kernel
theorem d_X11_isAsked_16 : decode M_X11_isAsked.2.1 16 = .ok (.if_icmp .ge 25, 3) := by decide +kernel
theorem d_X11_isAsked_19 : decode M_X11_isAsked.2.1 19 = .ok (.aload_n 0, 1) := by decide +kernel
theorem d_X11_isAsked_20 : decode M_X11_isAsked.2.1 20 = .ok (.iload_n 2, 1) := by decide +kernel
theorem d_X11_isAsked_21 : decode M_X11_isAsked.2.1 21 = .ok (.invokevirtual 377, 3) := by decide +kernel
theorem d_X11_isAsked_24 : decode M_X11_isAsked.2.1 24 = .ok (.iconst (-1), 1) := by decide +kernel
theorem d_X11_isAsked_25 : decode M_X11_isAsked.2.1 25 = .ok (.if_icmp .eq 16, 3) := by decide +kernel
theorem d_X11_isAsked_28 : decode M_X11_isAsked.2.1 28 = .ok (.aload_n 0, 1) := by decide +kernel
theorem d_X11_isAsked_29 : decode M_X11_isAsked.2.1 29 = .ok (.iload_n 3, 1) := by decide +kernel
theorem d_X11_isAsked_30 : decode M_X11_isAsked.2.1 30 = .ok (.invokevirtual 393, 3) := by decide +kernel
theorem d_X11_isAsked_33 : decode M_X11_isAsked.2.1 33 = .ok (.iconst (-1), 1) := by decide +kernel
theorem d_X11_isAsked_34 : decode M_X11_isAsked.2.1 34 = .ok (.if_icmp .eq 7, 3) := by decide +kernel
theorem d_X11_isAsked_37 : decode M_X11_isAsked.2.1 37 = .ok (.iconst 1, 1) := by decide +kernel
theorem d_X11_isAsked_38 : decode M_X11_isAsked.2.1 38 = .ok (.goto 4, 3) := by decide +kernel
theorem d_X11_isAsked_41 : decode M_X11_isAsked.2.1 41 = .ok (.iconst 0, 1) := by decide +kernel
theorem d_X11_isAsked_42 : decode M_X11_isAsked.2.1 42 = .ok (.ireturn, 1) := by decide +kernel
theorem ce_X11_isAsked : zw_CeV M_X11_isAsked 3 := ⟨⟨⟨by decide +kernel, by decide +kernel, by decide +kernel⟩, (zw_mG (List.mem_of_getElem? (i := 1664) (by decide +kernel)) rfl), (zw_mG (List.mem_of_getElem? (i := 108) (by decide +kernel)) rfl), by decide, by decide +kernel⟩, (zw_mG (List.mem_of_getElem? (i := 1663) (by decide +kernel)) rfl), (zw_mG (List.mem_of_getElem? (i := 87) (by decide +kernel)) rfl)⟩
def f_X11_isAsked (v0 : Nat) (v1 : Int32) (v2 : Int32) (v3 : Int32) (I : zI) (R : zR) : Option (Int32) :=
  if v1 < 0 then some 0 else zw_g (zw_gc v0 11) (zw_g (zw_gc (R v0 26) 13) (zw_g (zw_in (I v0 18) (zw_SH (R v0 26)).2) (if (1 <<< ((I (R v0 26) (Int32.toNatClampNeg (I v0 18))) &&& 31)) ≤ v1 then some 0 else (f_X11_roughRow v0 v2 I R).bind fun q6 => (if q6 = (-1) then some 0 else (f_X11_stuffRow v0 v3 I R).bind fun q8 => (if q8 = (-1) then some 0 else some 1)))))
theorem c_X11_isAsked (X : zw_X) (v0 : Nat) (v1 : Int32) (v2 : Int32) (v3 : Int32) (I : zI) (R : zR) (J : zJ) {P : Option Value → aS → Prop} (o : Int32) (hf : f_X11_isAsked v0 v1 v2 v3 I R = some o) (hk : P (some (.int o)) (I, R, J)) : zw_C X M_X11_isAsked 2 0 0 199 [.ref v0, .int v1, .int v2, .int v3] (I, R, J) P := by
  show zy_V X M_X11_isAsked 2 P 0 [.ref v0, .int v1, .int v2, .int v3] [] (I, R, J)
  unfold f_X11_isAsked at hf
  refine zv_iload_n (pc := 0) d_X11_isAsked_0 rfl ?_
  rcases zw_ifE hf with ⟨c1, hf⟩ | ⟨c1, hf⟩
  · refine zv_if_lt (pc := 1) (tg := 41) d_X11_isAsked_1 (by decide) (fun _ => ?_) (fun q => absurd c1 q)
    refine zv_iconst (pc := 41) d_X11_isAsked_41 zc_i_0 ?_
    cases hf
    exact zx_zret (pc := 42) d_X11_isAsked_42 rfl (Or.inl rfl) hk
  · refine zv_if_lt (pc := 1) (tg := 41) d_X11_isAsked_1 (by decide) (fun q => absurd q c1) (fun _ => ?_)
    refine zv_iload_n (pc := 4) d_X11_isAsked_4 rfl ?_
    refine zv_iconst (pc := 5) d_X11_isAsked_5 zc_i_1 ?_
    refine zv_aload_n (pc := 6) d_X11_isAsked_6 rfl ?_
    obtain ⟨g2, hf⟩ := zw_gcE hf (by decide)
    obtain ⟨g3, hf⟩ := zw_gcE hf (by decide)
    refine zx_getR (pc := 7) d_X11_isAsked_7 lk_CutStonesModel_58 (by decide) g2 g3 ?_
    refine zv_aload_n (pc := 10) d_X11_isAsked_10 rfl ?_
    refine zx_getI (pc := 11) d_X11_isAsked_11 lk_CutStonesModel_248 (by decide) g2 ?_
    obtain ⟨i4, hf⟩ := zw_inE hf
    refine zx_iald (pc := 14) d_X11_isAsked_14 g3 i4 ?_
    refine zv_ishl (pc := 15) d_X11_isAsked_15 ?_
    rcases zw_ifE hf with ⟨c5, hf⟩ | ⟨c5, hf⟩
    · refine zv_icmp_ge (pc := 16) (tg := 41) d_X11_isAsked_16 (by decide) (fun _ => ?_) (fun q => absurd c5 q)
      refine zv_iconst (pc := 41) d_X11_isAsked_41 zc_i_0 ?_
      cases hf
      exact zx_zret (pc := 42) d_X11_isAsked_42 rfl (Or.inl rfl) hk
    · refine zv_icmp_ge (pc := 16) (tg := 41) d_X11_isAsked_16 (by decide) (fun q => absurd q c5) (fun _ => ?_)
      refine zv_aload_n (pc := 19) d_X11_isAsked_19 rfl ?_
      refine zv_iload_n (pc := 20) d_X11_isAsked_20 rfl ?_
      obtain ⟨q6, hq6, hf⟩ := zw_bdE hf
      refine zx_callV (pc := 21) (As := [.int v2]) (o := v0) (st := []) (d2 := 1) (M2 := M_X11_roughRow) (P2 := (fun r S => r = (some (.int q6)) ∧ S = (I, R, J))) d_X11_isAsked_21 (zw_mG (List.mem_of_getElem? (i := 1518) (by decide +kernel)) rfl) ce_X11_roughRow (zw_RvK g2 rfl rfl) (Nat.le_of_ble_eq_true rfl) rfl (Nat.le_of_ble_eq_true rfl) (by decide) (c_X11_roughRow X v0 v2 I R J _ hq6 ⟨rfl, rfl⟩) ?_
      rintro _ _ ⟨rfl, rfl⟩
      show zy_V X M_X11_isAsked 2 P (21 + 3) [.ref v0, .int v1, .int v2, .int v3] [.int q6] (I, R, J)
      refine zv_iconst (pc := 24) d_X11_isAsked_24 zc_i_m1 ?_
      rcases zw_ifE hf with ⟨c7, hf⟩ | ⟨c7, hf⟩
      · refine zv_icmp_eq (pc := 25) (tg := 41) d_X11_isAsked_25 (by decide) (fun _ => ?_) (fun q => absurd c7 q)
        refine zv_iconst (pc := 41) d_X11_isAsked_41 zc_i_0 ?_
        cases hf
        exact zx_zret (pc := 42) d_X11_isAsked_42 rfl (Or.inl rfl) hk
      · refine zv_icmp_eq (pc := 25) (tg := 41) d_X11_isAsked_25 (by decide) (fun q => absurd q c7) (fun _ => ?_)
        refine zv_aload_n (pc := 28) d_X11_isAsked_28 rfl ?_
        refine zv_iload_n (pc := 29) d_X11_isAsked_29 rfl ?_
        obtain ⟨q8, hq8, hf⟩ := zw_bdE hf
        refine zx_callV (pc := 30) (As := [.int v3]) (o := v0) (st := []) (d2 := 1) (M2 := M_X11_stuffRow) (P2 := (fun r S => r = (some (.int q8)) ∧ S = (I, R, J))) d_X11_isAsked_30 (zw_mG (List.mem_of_getElem? (i := 1552) (by decide +kernel)) rfl) ce_X11_stuffRow (zw_RvK g2 rfl rfl) (Nat.le_of_ble_eq_true rfl) rfl (Nat.le_of_ble_eq_true rfl) (by decide) (c_X11_stuffRow X v0 v3 I R J _ hq8 ⟨rfl, rfl⟩) ?_
        rintro _ _ ⟨rfl, rfl⟩
        show zy_V X M_X11_isAsked 2 P (30 + 3) [.ref v0, .int v1, .int v2, .int v3] [.int q8] (I, R, J)
        refine zv_iconst (pc := 33) d_X11_isAsked_33 zc_i_m1 ?_
        rcases zw_ifE hf with ⟨c9, hf⟩ | ⟨c9, hf⟩
        · refine zv_icmp_eq (pc := 34) (tg := 41) d_X11_isAsked_34 (by decide) (fun _ => ?_) (fun q => absurd c9 q)
          refine zv_iconst (pc := 41) d_X11_isAsked_41 zc_i_0 ?_
          cases hf
          exact zx_zret (pc := 42) d_X11_isAsked_42 rfl (Or.inl rfl) hk
        · refine zv_icmp_eq (pc := 34) (tg := 41) d_X11_isAsked_34 (by decide) (fun q => absurd q c9) (fun _ => ?_)
          refine zv_iconst (pc := 37) d_X11_isAsked_37 zc_i_1 ?_
          refine zv_goto (pc := 38) (tg := 42) d_X11_isAsked_38 (by decide) ?_
          cases hf
          exact zx_zret (pc := 42) d_X11_isAsked_42 rfl (Or.inr rfl) hk
abbrev M_X11_must : zw_M := (⟨"CutStonesModel", "must", "(I)V"⟩, prog_13_method_19_code, 2, (Option.none : Option Jvm.ClassFile.FieldType))
theorem d_X11_must_0 : decode M_X11_must.2.1 0 = .ok (.aload_n 0, 1) := by decide +kernel
theorem d_X11_must_1 : decode M_X11_must.2.1 1 = .ok (.iload_n 1, 1) := by decide +kernel
theorem d_X11_must_2 : decode M_X11_must.2.1 2 = .ok (.invokevirtual 236, 3) := by decide +kernel
theorem d_X11_must_5 : decode M_X11_must.2.1 5 = .ok (.ifCond .eq 10, 3) := by decide +kernel
theorem d_X11_must_8 : decode M_X11_must.2.1 8 = .ok (.aload_n 0, 1) := by decide +kernel
theorem d_X11_must_9 : decode M_X11_must.2.1 9 = .ok (.invokevirtual 239, 3) := by decide +kernel
theorem d_X11_must_12 : decode M_X11_must.2.1 12 = .ok (.goto 8, 3) := by decide +kernel
theorem d_X11_must_15 : decode M_X11_must.2.1 15 = .ok (.aload_n 0, 1) := by decide +kernel
theorem d_X11_must_16 : decode M_X11_must.2.1 16 = .ok (.iconst 1, 1) := by decide +kernel
theorem d_X11_must_17 : decode M_X11_must.2.1 17 = .ok (.invokevirtual 233, 3) := by decide +kernel
theorem d_X11_must_20 : decode M_X11_must.2.1 20 = .ok (.return_, 1) := by decide +kernel
theorem ce_X11_must : zw_CeV M_X11_must 1 := ⟨⟨⟨by decide +kernel, by decide +kernel, by decide +kernel⟩, (zw_mG (List.mem_of_getElem? (i := 1469) (by decide +kernel)) rfl), (zw_mG (List.mem_of_getElem? (i := 108) (by decide +kernel)) rfl), by decide, by decide +kernel⟩, (zw_mG (List.mem_of_getElem? (i := 1468) (by decide +kernel)) rfl), (zw_mG (List.mem_of_getElem? (i := 60) (by decide +kernel)) rfl)⟩
def f_X11_must (v0 : Nat) (v1 : Int32) (I : zI) (R : zR) : Option (zI) :=
  zw_g (zw_gc v0 11) ((f_X11_is v0 v1 I R).bind fun q2 => (if q2 = 0 then (f_X11_fail v0 1 I R).bind fun q4 => (some q4) else (f_X11_goesOn v0 I R).bind fun q5 => (some q5)))
theorem c_X11_must (X : zw_X) (v0 : Nat) (v1 : Int32) (I : zI) (R : zR) (J : zJ) {P : Option Value → aS → Prop} (o : zI) (hf : f_X11_must v0 v1 I R = some o) (hk : P none (o, R, J)) : zw_C X M_X11_must 2 0 0 199 [.ref v0, .int v1] (I, R, J) P := by
  show zy_V X M_X11_must 2 P 0 [.ref v0, .int v1] [] (I, R, J)
  unfold f_X11_must at hf
  refine zv_aload_n (pc := 0) d_X11_must_0 rfl ?_
  refine zv_iload_n (pc := 1) d_X11_must_1 rfl ?_
  obtain ⟨g1, hf⟩ := zw_gcE hf (by decide)
  obtain ⟨q2, hq2, hf⟩ := zw_bdE hf
  refine zx_callV (pc := 2) (As := [.int v1]) (o := v0) (st := []) (d2 := 0) (M2 := M_X11_is) (P2 := (fun r S => r = (some (.int q2)) ∧ S = (I, R, J))) d_X11_must_2 (zw_mG (List.mem_of_getElem? (i := 1442) (by decide +kernel)) rfl) ce_X11_is (zw_RvK g1 rfl rfl) (Nat.le_of_ble_eq_true rfl) rfl (Nat.le_of_ble_eq_true rfl) (by decide) (c_X11_is X v0 v1 I R J _ hq2 ⟨rfl, rfl⟩) ?_
  rintro _ _ ⟨rfl, rfl⟩
  show zy_V X M_X11_must 2 P (2 + 3) [.ref v0, .int v1] [.int q2] (I, R, J)
  rcases zw_ifE hf with ⟨c3, hf⟩ | ⟨c3, hf⟩
  · refine zv_if_eq (pc := 5) (tg := 15) d_X11_must_5 (by decide) (fun _ => ?_) (fun q => absurd c3 q)
    refine zv_aload_n (pc := 15) d_X11_must_15 rfl ?_
    refine zv_iconst (pc := 16) d_X11_must_16 zc_i_1 ?_
    obtain ⟨q4, hq4, hf⟩ := zw_bdE hf
    refine zx_callV (pc := 17) (As := [.int 1]) (o := v0) (st := []) (d2 := 0) (M2 := M_X11_fail) (P2 := (fun r S => r = none ∧ S = (q4, R, J))) d_X11_must_17 (zw_mG (List.mem_of_getElem? (i := 1450) (by decide +kernel)) rfl) ce_X11_fail (zw_RvK g1 rfl rfl) (Nat.le_of_ble_eq_true rfl) rfl (Nat.le_of_ble_eq_true rfl) (by decide) (c_X11_fail X v0 1 I R J _ hq4 ⟨rfl, rfl⟩) ?_
    rintro _ _ ⟨rfl, rfl⟩
    show zy_V X M_X11_must 2 P (17 + 3) [.ref v0, .int v1] [] (q4, R, J)
    cases hf
    exact zx_vret (pc := 20) d_X11_must_20 rfl hk
  · refine zv_if_eq (pc := 5) (tg := 15) d_X11_must_5 (by decide) (fun q => absurd q c3) (fun _ => ?_)
    refine zv_aload_n (pc := 8) d_X11_must_8 rfl ?_
    obtain ⟨q5, hq5, hf⟩ := zw_bdE hf
    refine zx_callV (pc := 9) (As := []) (o := v0) (st := []) (d2 := 1) (M2 := M_X11_goesOn) (P2 := (fun r S => r = none ∧ S = (q5, R, J))) d_X11_must_9 (zw_mG (List.mem_of_getElem? (i := 1458) (by decide +kernel)) rfl) ce_X11_goesOn (zw_RvK g1 rfl rfl) (Nat.le_of_ble_eq_true rfl) rfl (Nat.le_of_ble_eq_true rfl) (by decide) (c_X11_goesOn X v0 I R J _ hq5 ⟨rfl, rfl⟩) ?_
    rintro _ _ ⟨rfl, rfl⟩
    show zy_V X M_X11_must 2 P (9 + 3) [.ref v0, .int v1] [] (q5, R, J)
    refine zv_goto (pc := 12) (tg := 20) d_X11_must_12 (by decide) ?_
    cases hf
    exact zx_vret (pc := 20) d_X11_must_20 rfl hk
abbrev M_X11_places : zw_M := (⟨"CutStonesModel", "places", "(II)I"⟩, prog_13_method_70_code, 7, (Option.some Jvm.ClassFile.FieldType.int))
theorem d_X11_places_0 : decode M_X11_places.2.1 0 = .ok (.aload_n 0, 1) := by decide +kernel
theorem d_X11_places_1 : decode M_X11_places.2.1 1 = .ok (.iload_n 1, 1) := by decide +kernel
theorem d_X11_places_2 : decode M_X11_places.2.1 2 = .ok (.invokevirtual 380, 3) := by decide +kernel
theorem d_X11_places_5 : decode M_X11_places.2.1 5 = .ok (.istore_n 3, 1) := by decide +kernel
theorem d_X11_places_6 : decode M_X11_places.2.1 6 = .ok (.aload_n 0, 1) := by decide +kernel
theorem d_X11_places_7 : decode M_X11_places.2.1 7 = .ok (.iload_n 2, 1) := by decide +kernel
theorem d_X11_places_8 : decode M_X11_places.2.1 8 = .ok (.invokevirtual 377, 3) := by decide +kernel
theorem d_X11_places_11 : decode M_X11_places.2.1 11 = .ok (.istore 4, 2) := by decide +kernel
theorem d_X11_places_13 : decode M_X11_places.2.1 13 = .ok (.iload_n 3, 1) := by decide +kernel
theorem d_X11_places_14 : decode M_X11_places.2.1 14 = .ok (.iconst (-1), 1) := by decide +kernel
theorem d_X11_places_15 : decode M_X11_places.2.1 15 = .ok (.if_icmp .eq 9, 3) := by decide +kernel
theorem d_X11_places_18 : decode M_X11_places.2.1 18 = .ok (.iload 4, 2) := by decide +kernel
theorem d_X11_places_20 : decode M_X11_places.2.1 20 = .ok (.iconst (-1), 1) := by decide +kernel
theorem d_X11_places_21 : decode M_X11_places.2.1 21 = .ok (.if_icmp .ne 5, 3) := by decide +kernel
theorem d_X11_places_24 : decode M_X11_places.2.1 24 = .ok (.iconst (-1), 1) := by decide +kernel
theorem d_X11_places_25 : decode M_X11_places.2.1 25 = .ok (.ireturn, 1) := by decide +kernel
theorem d_X11_places_26 : decode M_X11_places.2.1 26 = .ok (.iconst 0, 1) := by decide +kernel
theorem d_X11_places_27 : decode M_X11_places.2.1 27 = .ok (.istore 5, 2) := by decide +kernel
theorem d_X11_places_29 : decode M_X11_places.2.1 29 = .ok (.iconst 0, 1) := by decide +kernel
theorem d_X11_places_30 : decode M_X11_places.2.1 30 = .ok (.istore 6, 2) := by decide +kernel
theorem d_X11_places_32 : decode M_X11_places.2.1 32 = .ok (.iload 6, 2) := by decide +kernel
theorem d_X11_places_34 : decode M_X11_places.2.1 34 = .ok (.sipush 144, 3) := by decide +kernel
theorem d_X11_places_37 : decode M_X11_places.2.1 37 = .ok (.if_icmp .ge 35, 3) := by decide +kernel
theorem d_X11_places_40 : decode M_X11_places.2.1 40 = .ok (.aload_n 0, 1) := by decide +kernel
theorem d_X11_places_41 : decode M_X11_places.2.1 41 = .ok (.iload_n 3, 1) := by decide +kernel
theorem d_X11_places_42 : decode M_X11_places.2.1 42 = .ok (.iload 4, 2) := by decide +kernel
theorem d_X11_places_44 : decode M_X11_places.2.1 44 = .ok (.iload 6, 2) := by decide +kernel
theorem d_X11_places_46 : decode M_X11_places.2.1 46 = .ok (.bipush 12, 2) := by decide +kernel
theorem d_X11_places_48 : decode M_X11_places.2.1 48 = .ok (.irem, 1) := by decide +kernel
theorem d_X11_places_49 : decode M_X11_places.2.1 49 = .ok (.iload 6, 2) := by decide +kernel
theorem d_X11_places_51 : decode M_X11_places.2.1 51 = .ok (.bipush 12, 2) := by decide +kernel
theorem d_X11_places_53 : decode M_X11_places.2.1 53 = .ok (.idiv, 1) := by decide +kernel
theorem d_X11_places_54 : decode M_X11_places.2.1 54 = .ok (.iconst 0, 1) := by decide +kernel
theorem d_X11_places_55 : decode M_X11_places.2.1 55 = .ok (.bipush 12, 2) := by decide +kernel
theorem d_X11_places_57 : decode M_X11_places.2.1 57 = .ok (.invokevirtual 430, 3) := by decide +kernel
theorem d_X11_places_60 : decode M_X11_places.2.1 60 = .ok (.ifCond .eq 6, 3) := by decide +kernel
theorem d_X11_places_63 : decode M_X11_places.2.1 63 = .ok (.iinc 5 1, 3) := by decide +kernel
theorem d_X11_places_66 : decode M_X11_places.2.1 66 = .ok (.iinc 6 1, 3) := by decide +kernel
theorem d_X11_places_69 : decode M_X11_places.2.1 69 = .ok (.goto (-37), 3) := by decide +kernel
theorem d_X11_places_72 : decode M_X11_places.2.1 72 = .ok (.iload 5, 2) := by decide +kernel
theorem d_X11_places_74 : decode M_X11_places.2.1 74 = .ok (.ireturn, 1) := by decide +kernel
theorem ce_X11_places : zw_CeV M_X11_places 2 := ⟨⟨⟨by decide +kernel, by decide +kernel, by decide +kernel⟩, (zw_mG (List.mem_of_getElem? (i := 1656) (by decide +kernel)) rfl), (zw_mG (List.mem_of_getElem? (i := 108) (by decide +kernel)) rfl), by decide, by decide +kernel⟩, (zw_mG (List.mem_of_getElem? (i := 1654) (by decide +kernel)) rfl), (zw_mG (List.mem_of_getElem? (i := 1655) (by decide +kernel)) rfl)⟩
def j_X11_places_66_32 (v0 : Nat) (v3 : Int32) (v4 : Int32) (v5 : Int32) (v6 : Int32) (I : zI) (R : zR) : Option ((Int32 × Int32) ⊕ (Int32)) :=
  zw_let (v6 + 1 : Int32) fun x10 => (some (.inl (v5, x10)))
theorem j_X11_places_66_32_ok (X : zw_X) (P : Option Value → aS → Prop) (v0 : Nat) (v3 : Int32) (v4 : Int32) (v5 : Int32) (v6 : Int32) (I : zI) (R : zR) (J : zJ) (o : (Int32 × Int32) ⊕ (Int32)) (hf : j_X11_places_66_32 v0 v3 v4 v5 v6 I R = some o) (hk : (zw_se (fun t => zy_V X M_X11_places 2 P 32 [.ref v0, .null, .null, .int v3, .int v4, .int t.1, .int t.2] [] (I, R, J)) (fun r => zy_V X M_X11_places 2 P 72 [.null, .null, .null, .null, .null, .int r, .null] [] (I, R, J)) o)) : zy_V X M_X11_places 2 P 66 [.ref v0, .null, .null, .int v3, .int v4, .int v5, .int v6] [] (I, R, J) := by
  unfold j_X11_places_66_32 at hf
  obtain ⟨x10, ex10, hf⟩ := zw_letE hf
  refine zx_iinc (pc := 66) (x2 := x10) (L2 := [.ref v0, .null, .null, .int v3, .int v4, .int v5, .int x10]) d_X11_places_66 (by decide) rfl zc_i_1 ex10 rfl ?_
  refine zv_goto (pc := 69) (tg := 32) d_X11_places_69 (by decide) ?_
  cases hf
  exact zx_weak (zw_leS (zw_leN (zw_leN (zw_leS (zw_leS (zw_leS (zw_leS zw_leZ))))))) hk
def s_X11_places_32 (v0 : Nat) (v3 : Int32) (v4 : Int32) (I : zI) (R : zR) (s : Int32 × Int32) : Option ((Int32 × Int32) ⊕ (Int32)) :=
  if 144 ≤ s.2 then some (.inr s.1) else zw_g (zw_gc v0 11) ((f_X11_lies v0 v3 v4 (s.2 - s.2 / 12 * 12) (s.2 / 12) 0 12 I R).bind fun q8 => (if q8 = 0 then j_X11_places_66_32 v0 v3 v4 s.1 s.2 I R else zw_let (s.1 + 1 : Int32) fun x11 => (j_X11_places_66_32 v0 v3 v4 x11 s.2 I R)))
theorem s_X11_places_32_ok (X : zw_X) (P : Option Value → aS → Prop) (v0 : Nat) (v3 : Int32) (v4 : Int32) (I : zI) (R : zR) (J : zJ) (s : Int32 × Int32) (o : (Int32 × Int32) ⊕ (Int32)) (hf : s_X11_places_32 v0 v3 v4 I R s = some o) (hk : (zw_se (fun t => zy_V X M_X11_places 2 P 32 [.ref v0, .null, .null, .int v3, .int v4, .int t.1, .int t.2] [] (I, R, J)) (fun r => zy_V X M_X11_places 2 P 72 [.null, .null, .null, .null, .null, .int r, .null] [] (I, R, J)) o)) : zy_V X M_X11_places 2 P 32 [.ref v0, .null, .null, .int v3, .int v4, .int s.1, .int s.2] [] (I, R, J) := by
  unfold s_X11_places_32 at hf
  refine zv_iload (pc := 32) d_X11_places_32 rfl ?_
  refine zv_sipush (pc := 34) d_X11_places_34 zc_s_144 ?_
  rcases zw_ifE hf with ⟨c6, hf⟩ | ⟨c6, hf⟩
  · refine zv_icmp_ge (pc := 37) (tg := 72) d_X11_places_37 (by decide) (fun _ => ?_) (fun q => absurd c6 q)
    cases hf
    exact zx_weak (zw_leN (zw_leN (zw_leN (zw_leN (zw_leN (zw_leS (zw_leN zw_leZ))))))) hk
  · refine zv_icmp_ge (pc := 37) (tg := 72) d_X11_places_37 (by decide) (fun q => absurd q c6) (fun _ => ?_)
    refine zv_aload_n (pc := 40) d_X11_places_40 rfl ?_
    refine zv_iload_n (pc := 41) d_X11_places_41 rfl ?_
    refine zv_iload (pc := 42) d_X11_places_42 rfl ?_
    refine zv_iload (pc := 44) d_X11_places_44 rfl ?_
    refine zv_bipush (pc := 46) d_X11_places_46 zc_b_12 ?_
    refine zv_irem (pc := 48) d_X11_places_48 (by decide +kernel) ?_
    refine zv_iload (pc := 49) d_X11_places_49 rfl ?_
    refine zv_bipush (pc := 51) d_X11_places_51 zc_b_12 ?_
    refine zv_idiv (pc := 53) d_X11_places_53 (by decide +kernel) ?_
    refine zv_iconst (pc := 54) d_X11_places_54 zc_i_0 ?_
    refine zv_bipush (pc := 55) d_X11_places_55 zc_b_12 ?_
    obtain ⟨g7, hf⟩ := zw_gcE hf (by decide)
    obtain ⟨q8, hq8, hf⟩ := zw_bdE hf
    refine zx_callV (pc := 57) (As := [.int v3, .int v4, .int (s.2 - s.2 / 12 * 12), .int (s.2 / 12), .int 0, .int 12]) (o := v0) (st := []) (d2 := 1) (M2 := M_X11_lies) (P2 := (fun r S => r = (some (.int q8)) ∧ S = (I, R, J))) d_X11_places_57 (zw_mG (List.mem_of_getElem? (i := 1649) (by decide +kernel)) rfl) ce_X11_lies (zw_RvK g7 rfl rfl) (Nat.le_of_ble_eq_true rfl) rfl (Nat.le_of_ble_eq_true rfl) (by decide) (c_X11_lies X v0 v3 v4 (s.2 - s.2 / 12 * 12) (s.2 / 12) 0 12 I R J _ hq8 ⟨rfl, rfl⟩) ?_
    rintro _ _ ⟨rfl, rfl⟩
    show zy_V X M_X11_places 2 P (57 + 3) [.ref v0, .null, .null, .int v3, .int v4, .int s.1, .int s.2] [.int q8] (I, R, J)
    rcases zw_ifE hf with ⟨c9, hf⟩ | ⟨c9, hf⟩
    · refine zv_if_eq (pc := 60) (tg := 66) d_X11_places_60 (by decide) (fun _ => ?_) (fun q => absurd c9 q)
      exact zx_weak (zw_leS (zw_leN (zw_leN (zw_leS (zw_leS (zw_leS (zw_leS zw_leZ))))))) (j_X11_places_66_32_ok X P v0 v3 v4 s.1 s.2 I R J _ hf hk)
    · refine zv_if_eq (pc := 60) (tg := 66) d_X11_places_60 (by decide) (fun q => absurd q c9) (fun _ => ?_)
      obtain ⟨x11, ex11, hf⟩ := zw_letE hf
      refine zx_iinc (pc := 63) (x2 := x11) (L2 := [.ref v0, .null, .null, .int v3, .int v4, .int x11, .int s.2]) d_X11_places_63 (by decide) rfl zc_i_1 ex11 rfl ?_
      exact zx_weak (zw_leS (zw_leN (zw_leN (zw_leS (zw_leS (zw_leS (zw_leS zw_leZ))))))) (j_X11_places_66_32_ok X P v0 v3 v4 x11 s.2 I R J _ hf hk)
theorem s_X11_places_32_lp (X : zw_X) (P : Option Value → aS → Prop) (v0 : Nat) (v3 : Int32) (v4 : Int32) (I : zI) (R : zR) (J : zJ) (n : Nat) (s : Int32 × Int32) (r : Int32) (h : zw_it (s_X11_places_32 v0 v3 v4 I R) n s = some r) (hq : zy_V X M_X11_places 2 P 72 [.null, .null, .null, .null, .null, .int r, .null] [] (I, R, J)) : zy_V X M_X11_places 2 P 32 [.ref v0, .null, .null, .int v3, .int v4, .int s.1, .int s.2] [] (I, R, J) :=
  zw_itE (A := (fun t : Int32 × Int32 => zy_V X M_X11_places 2 P 32 [.ref v0, .null, .null, .int v3, .int v4, .int t.1, .int t.2] [] (I, R, J))) (Q := (fun r : Int32 => zy_V X M_X11_places 2 P 72 [.null, .null, .null, .null, .null, .int r, .null] [] (I, R, J))) (fun s o h1 h2 => s_X11_places_32_ok X P v0 v3 v4 I R J s o h1 h2) n s r h hq
def f_X11_places (v0 : Nat) (v1 : Int32) (v2 : Int32) (I : zI) (R : zR) : Option (Int32) :=
  zw_g (zw_gc v0 11) ((f_X11_cutRow v0 v1 I R).bind fun q2 => ((f_X11_roughRow v0 v2 I R).bind fun q3 => (if q2 = (-1) then some (-1) else if ¬ q3 = (-1) then (zw_it (s_X11_places_32 v0 q2 q3 I R) 1000000 (0, 0)).bind fun q12 => (some q12) else some (-1))))
theorem c_X11_places (X : zw_X) (v0 : Nat) (v1 : Int32) (v2 : Int32) (I : zI) (R : zR) (J : zJ) {P : Option Value → aS → Prop} (o : Int32) (hf : f_X11_places v0 v1 v2 I R = some o) (hk : P (some (.int o)) (I, R, J)) : zw_C X M_X11_places 2 0 0 199 [.ref v0, .int v1, .int v2] (I, R, J) P := by
  show zy_V X M_X11_places 2 P 0 [.ref v0, .int v1, .int v2, .null, .null, .null, .null] [] (I, R, J)
  unfold f_X11_places at hf
  refine zv_aload_n (pc := 0) d_X11_places_0 rfl ?_
  refine zv_iload_n (pc := 1) d_X11_places_1 rfl ?_
  obtain ⟨g1, hf⟩ := zw_gcE hf (by decide)
  obtain ⟨q2, hq2, hf⟩ := zw_bdE hf
  refine zx_callV (pc := 2) (As := [.int v1]) (o := v0) (st := []) (d2 := 1) (M2 := M_X11_cutRow) (P2 := (fun r S => r = (some (.int q2)) ∧ S = (I, R, J))) d_X11_places_2 (zw_mG (List.mem_of_getElem? (i := 1525) (by decide +kernel)) rfl) ce_X11_cutRow (zw_RvK g1 rfl rfl) (Nat.le_of_ble_eq_true rfl) rfl (Nat.le_of_ble_eq_true rfl) (by decide) (c_X11_cutRow X v0 v1 I R J _ hq2 ⟨rfl, rfl⟩) ?_
  rintro _ _ ⟨rfl, rfl⟩
  show zy_V X M_X11_places 2 P (2 + 3) [.ref v0, .int v1, .int v2, .null, .null, .null, .null] [.int q2] (I, R, J)
  refine zx_istore_n (pc := 5) (x2 := q2) (L2 := [.ref v0, .int v1, .int v2, .int q2, .null, .null, .null]) d_X11_places_5 (by decide) rfl rfl ?_
  refine zv_aload_n (pc := 6) d_X11_places_6 rfl ?_
  refine zv_iload_n (pc := 7) d_X11_places_7 rfl ?_
  obtain ⟨q3, hq3, hf⟩ := zw_bdE hf
  refine zx_callV (pc := 8) (As := [.int v2]) (o := v0) (st := []) (d2 := 1) (M2 := M_X11_roughRow) (P2 := (fun r S => r = (some (.int q3)) ∧ S = (I, R, J))) d_X11_places_8 (zw_mG (List.mem_of_getElem? (i := 1518) (by decide +kernel)) rfl) ce_X11_roughRow (zw_RvK g1 rfl rfl) (Nat.le_of_ble_eq_true rfl) rfl (Nat.le_of_ble_eq_true rfl) (by decide) (c_X11_roughRow X v0 v2 I R J _ hq3 ⟨rfl, rfl⟩) ?_
  rintro _ _ ⟨rfl, rfl⟩
  show zy_V X M_X11_places 2 P (8 + 3) [.ref v0, .int v1, .int v2, .int q2, .null, .null, .null] [.int q3] (I, R, J)
  refine zx_istore (pc := 11) (x2 := q3) (L2 := [.ref v0, .int v1, .int v2, .int q2, .int q3, .null, .null]) d_X11_places_11 (by decide) rfl rfl ?_
  refine zv_iload_n (pc := 13) d_X11_places_13 rfl ?_
  refine zv_iconst (pc := 14) d_X11_places_14 zc_i_m1 ?_
  rcases zw_ifE hf with ⟨c4, hf⟩ | ⟨c4, hf⟩
  · refine zv_icmp_eq (pc := 15) (tg := 24) d_X11_places_15 (by decide) (fun _ => ?_) (fun q => absurd c4 q)
    refine zv_iconst (pc := 24) d_X11_places_24 zc_i_m1 ?_
    cases hf
    exact zx_iret (pc := 25) d_X11_places_25 rfl hk
  · refine zv_icmp_eq (pc := 15) (tg := 24) d_X11_places_15 (by decide) (fun q => absurd q c4) (fun _ => ?_)
    refine zv_iload (pc := 18) d_X11_places_18 rfl ?_
    refine zv_iconst (pc := 20) d_X11_places_20 zc_i_m1 ?_
    rcases zw_ifE hf with ⟨c5, hf⟩ | ⟨c5, hf⟩
    · refine zv_icmp_ne (pc := 21) (tg := 26) d_X11_places_21 (by decide) (fun _ => ?_) (fun q => absurd q c5)
      refine zv_iconst (pc := 26) d_X11_places_26 zc_i_0 ?_
      refine zx_istore (pc := 27) (x2 := 0) (L2 := [.ref v0, .int v1, .int v2, .int q2, .int q3, .int 0, .null]) d_X11_places_27 (by decide) rfl rfl ?_
      refine zv_iconst (pc := 29) d_X11_places_29 zc_i_0 ?_
      refine zx_istore (pc := 30) (x2 := 0) (L2 := [.ref v0, .int v1, .int v2, .int q2, .int q3, .int 0, .int 0]) d_X11_places_30 (by decide) rfl rfl ?_
      obtain ⟨q12, hq12, hf⟩ := zw_bdE hf
      refine zx_weak (L' := [.ref v0, .null, .null, .int q2, .int q3, .int 0, .int 0]) (zw_leS (zw_leN (zw_leN (zw_leS (zw_leS (zw_leS (zw_leS zw_leZ))))))) (s_X11_places_32_lp X P v0 q2 q3 I R J _ _ _ hq12 ?_)
      show zy_V X M_X11_places 2 P 72 [.null, .null, .null, .null, .null, .int q12, .null] [] (I, R, J)
      refine zv_iload (pc := 72) d_X11_places_72 rfl ?_
      cases hf
      exact zx_iret (pc := 74) d_X11_places_74 rfl hk
    · refine zv_icmp_ne (pc := 21) (tg := 26) d_X11_places_21 (by decide) (fun q => absurd q c5) (fun _ => ?_)
      refine zv_iconst (pc := 24) d_X11_places_24 zc_i_m1 ?_
      cases hf
      exact zx_iret (pc := 25) d_X11_places_25 rfl hk
abbrev M_X11_row : zw_M := (⟨"CutStonesModel", "row", "(ZI)I"⟩, prog_13_method_50_code, 3, (Option.some Jvm.ClassFile.FieldType.int))
theorem d_X11_row_0 : decode M_X11_row.2.1 0 = .ok (.iload_n 1, 1) := by decide +kernel
theorem d_X11_row_1 : decode M_X11_row.2.1 1 = .ok (.ifCond .eq 11, 3) := by decide +kernel
theorem d_X11_row_4 : decode M_X11_row.2.1 4 = .ok (.aload_n 0, 1) := by decide +kernel
theorem d_X11_row_5 : decode M_X11_row.2.1 5 = .ok (.iload_n 2, 1) := by decide +kernel
theorem d_X11_row_6 : decode M_X11_row.2.1 6 = .ok (.invokevirtual 377, 3) := by decide +kernel
theorem d_X11_row_9 : decode M_X11_row.2.1 9 = .ok (.goto 8, 3) := by decide +kernel
theorem d_X11_row_12 : decode M_X11_row.2.1 12 = .ok (.aload_n 0, 1) := by decide +kernel
theorem d_X11_row_13 : decode M_X11_row.2.1 13 = .ok (.iload_n 2, 1) := by decide +kernel
theorem d_X11_row_14 : decode M_X11_row.2.1 14 = .ok (.invokevirtual 380, 3) := by decide +kernel
theorem d_X11_row_17 : decode M_X11_row.2.1 17 = .ok (.ireturn, 1) := by decide +kernel
theorem ce_X11_row : zw_CeV M_X11_row 2 := ⟨⟨⟨by decide +kernel, by decide +kernel, by decide +kernel⟩, (zw_mG (List.mem_of_getElem? (i := 1517) (by decide +kernel)) rfl), (zw_mG (List.mem_of_getElem? (i := 108) (by decide +kernel)) rfl), by decide, by decide +kernel⟩, (zw_mG (List.mem_of_getElem? (i := 1516) (by decide +kernel)) rfl), (zw_mG (List.mem_of_getElem? (i := 70) (by decide +kernel)) rfl)⟩
def f_X11_row (v0 : Nat) (v1 : Int32) (v2 : Int32) (I : zI) (R : zR) : Option (Int32) :=
  if v1 = 0 then zw_g (zw_gc v0 11) ((f_X11_cutRow v0 v2 I R).bind fun q3 => (some q3)) else zw_g (zw_gc v0 11) ((f_X11_roughRow v0 v2 I R).bind fun q5 => (some q5))
theorem c_X11_row (X : zw_X) (v0 : Nat) (v1 : Int32) (v2 : Int32) (I : zI) (R : zR) (J : zJ) {P : Option Value → aS → Prop} (o : Int32) (hf : f_X11_row v0 v1 v2 I R = some o) (hk : P (some (.int o)) (I, R, J)) : zw_C X M_X11_row 2 0 0 199 [.ref v0, .int v1, .int v2] (I, R, J) P := by
  show zy_V X M_X11_row 2 P 0 [.ref v0, .int v1, .int v2] [] (I, R, J)
  unfold f_X11_row at hf
  refine zv_iload_n (pc := 0) d_X11_row_0 rfl ?_
  rcases zw_ifE hf with ⟨c1, hf⟩ | ⟨c1, hf⟩
  · refine zv_if_eq (pc := 1) (tg := 12) d_X11_row_1 (by decide) (fun _ => ?_) (fun q => absurd c1 q)
    refine zv_aload_n (pc := 12) d_X11_row_12 rfl ?_
    refine zv_iload_n (pc := 13) d_X11_row_13 rfl ?_
    obtain ⟨g2, hf⟩ := zw_gcE hf (by decide)
    obtain ⟨q3, hq3, hf⟩ := zw_bdE hf
    refine zx_callV (pc := 14) (As := [.int v2]) (o := v0) (st := []) (d2 := 1) (M2 := M_X11_cutRow) (P2 := (fun r S => r = (some (.int q3)) ∧ S = (I, R, J))) d_X11_row_14 (zw_mG (List.mem_of_getElem? (i := 1525) (by decide +kernel)) rfl) ce_X11_cutRow (zw_RvK g2 rfl rfl) (Nat.le_of_ble_eq_true rfl) rfl (Nat.le_of_ble_eq_true rfl) (by decide) (c_X11_cutRow X v0 v2 I R J _ hq3 ⟨rfl, rfl⟩) ?_
    rintro _ _ ⟨rfl, rfl⟩
    show zy_V X M_X11_row 2 P (14 + 3) [.ref v0, .int v1, .int v2] [.int q3] (I, R, J)
    cases hf
    exact zx_iret (pc := 17) d_X11_row_17 rfl hk
  · refine zv_if_eq (pc := 1) (tg := 12) d_X11_row_1 (by decide) (fun q => absurd q c1) (fun _ => ?_)
    refine zv_aload_n (pc := 4) d_X11_row_4 rfl ?_
    refine zv_iload_n (pc := 5) d_X11_row_5 rfl ?_
    obtain ⟨g4, hf⟩ := zw_gcE hf (by decide)
    obtain ⟨q5, hq5, hf⟩ := zw_bdE hf
    refine zx_callV (pc := 6) (As := [.int v2]) (o := v0) (st := []) (d2 := 1) (M2 := M_X11_roughRow) (P2 := (fun r S => r = (some (.int q5)) ∧ S = (I, R, J))) d_X11_row_6 (zw_mG (List.mem_of_getElem? (i := 1518) (by decide +kernel)) rfl) ce_X11_roughRow (zw_RvK g4 rfl rfl) (Nat.le_of_ble_eq_true rfl) rfl (Nat.le_of_ble_eq_true rfl) (by decide) (c_X11_roughRow X v0 v2 I R J _ hq5 ⟨rfl, rfl⟩) ?_
    rintro _ _ ⟨rfl, rfl⟩
    show zy_V X M_X11_row 2 P (6 + 3) [.ref v0, .int v1, .int v2] [.int q5] (I, R, J)
    refine zv_goto (pc := 9) (tg := 17) d_X11_row_9 (by decide) ?_
    cases hf
    exact zx_iret (pc := 17) d_X11_row_17 rfl hk
abbrev M_X11_test : zw_M := (⟨"CutStonesModel", "test", "(III)I"⟩, prog_13_method_77_code, 4, (Option.some Jvm.ClassFile.FieldType.int))
theorem d_X11_test_0 : decode M_X11_test.2.1 0 = .ok (.aload_n 0, 1) := by decide +kernel
theorem d_X11_test_1 : decode M_X11_test.2.1 1 = .ok (.getfield 273, 3) := by decide +kernel
theorem d_X11_test_4 : decode M_X11_test.2.1 4 = .ok (.bipush 60, 2) := by decide +kernel
theorem d_X11_test_6 : decode M_X11_test.2.1 6 = .ok (.if_icmp .eq 30, 3) := by decide +kernel
theorem d_X11_test_9 : decode M_X11_test.2.1 9 = .ok (.aload_n 0, 1) := by decide +kernel
theorem d_X11_test_10 : decode M_X11_test.2.1 10 = .ok (.iload_n 1, 1) := by decide +kernel
theorem d_X11_test_11 : decode M_X11_test.2.1 11 = .ok (.invokevirtual 380, 3) := by decide +kernel
theorem d_X11_test_14 : decode M_X11_test.2.1 14 = .ok (.iconst (-1), 1) := by decide +kernel
theorem d_X11_test_15 : decode M_X11_test.2.1 15 = .ok (.if_icmp .eq 21, 3) := by decide +kernel
theorem d_X11_test_18 : decode M_X11_test.2.1 18 = .ok (.iload_n 2, 1) := by decide +kernel
theorem d_X11_test_19 : decode M_X11_test.2.1 19 = .ok (.invokestatic 396, 3) := by decide +kernel
theorem d_X11_test_22 : decode M_X11_test.2.1 22 = .ok (.ifCond .eq 14, 3) := by decide +kernel
theorem d_X11_test_25 : decode M_X11_test.2.1 25 = .ok (.iload_n 3, 1) := by decide +kernel
theorem d_X11_test_26 : decode M_X11_test.2.1 26 = .ok (.iconst 0, 1) := by decide +kernel
theorem d_X11_test_27 : decode M_X11_test.2.1 27 = .ok (.ldc_w 399, 3) := by decide +kernel
theorem d_X11_test_30 : decode M_X11_test.2.1 30 = .ok (.invokestatic 373, 3) := by decide +kernel
theorem d_X11_test_33 : decode M_X11_test.2.1 33 = .ok (.ifCond .ne 5, 3) := by decide +kernel
theorem d_X11_test_36 : decode M_X11_test.2.1 36 = .ok (.iconst (-1), 1) := by decide +kernel
theorem d_X11_test_37 : decode M_X11_test.2.1 37 = .ok (.ireturn, 1) := by decide +kernel
theorem d_X11_test_38 : decode M_X11_test.2.1 38 = .ok (.aload_n 0, 1) := by decide +kernel
theorem d_X11_test_39 : decode M_X11_test.2.1 39 = .ok (.getfield 161, 3) := by decide +kernel
theorem d_X11_test_42 : decode M_X11_test.2.1 42 = .ok (.aload_n 0, 1) := by decide +kernel
theorem d_X11_test_43 : decode M_X11_test.2.1 43 = .ok (.getfield 273, 3) := by decide +kernel
theorem d_X11_test_46 : decode M_X11_test.2.1 46 = .ok (.iconst (-1), 1) := by decide +kernel
theorem d_X11_test_47 : decode M_X11_test.2.1 47 = .ok (.iastore, 1) := by decide +kernel
theorem d_X11_test_48 : decode M_X11_test.2.1 48 = .ok (.aload_n 0, 1) := by decide +kernel
theorem d_X11_test_49 : decode M_X11_test.2.1 49 = .ok (.getfield 164, 3) := by decide +kernel
theorem d_X11_test_52 : decode M_X11_test.2.1 52 = .ok (.aload_n 0, 1) := by decide +kernel
theorem d_X11_test_53 : decode M_X11_test.2.1 53 = .ok (.getfield 273, 3) := by decide +kernel
theorem d_X11_test_56 : decode M_X11_test.2.1 56 = .ok (.iload_n 1, 1) := by decide +kernel
theorem d_X11_test_57 : decode M_X11_test.2.1 57 = .ok (.iastore, 1) := by decide +kernel
theorem d_X11_test_58 : decode M_X11_test.2.1 58 = .ok (.aload_n 0, 1) := by decide +kernel
theorem d_X11_test_59 : decode M_X11_test.2.1 59 = .ok (.getfield 167, 3) := by decide +kernel
theorem d_X11_test_62 : decode M_X11_test.2.1 62 = .ok (.aload_n 0, 1) := by decide +kernel
theorem d_X11_test_63 : decode M_X11_test.2.1 63 = .ok (.getfield 273, 3) := by decide +kernel
theorem d_X11_test_66 : decode M_X11_test.2.1 66 = .ok (.iload_n 2, 1) := by decide +kernel
theorem d_X11_test_67 : decode M_X11_test.2.1 67 = .ok (.iastore, 1) := by decide +kernel
theorem d_X11_test_68 : decode M_X11_test.2.1 68 = .ok (.aload_n 0, 1) := by decide +kernel
theorem d_X11_test_69 : decode M_X11_test.2.1 69 = .ok (.getfield 170, 3) := by decide +kernel
theorem d_X11_test_72 : decode M_X11_test.2.1 72 = .ok (.aload_n 0, 1) := by decide +kernel
theorem d_X11_test_73 : decode M_X11_test.2.1 73 = .ok (.getfield 273, 3) := by decide +kernel
theorem d_X11_test_76 : decode M_X11_test.2.1 76 = .ok (.iload_n 3, 1) := by decide +kernel
theorem d_X11_test_77 : decode M_X11_test.2.1 77 = .ok (.iastore, 1) := by decide +kernel
theorem d_X11_test_78 : decode M_X11_test.2.1 78 = .ok (.aload_n 0, 1) := by decide +kernel
theorem d_X11_test_79 : decode M_X11_test.2.1 79 = .ok (.dup, 1) := by decide +kernel
theorem d_X11_test_80 : decode M_X11_test.2.1 80 = .ok (.getfield 273, 3) := by decide +kernel
theorem d_X11_test_83 : decode M_X11_test.2.1 83 = .ok (.iconst 1, 1) := by decide +kernel
theorem d_X11_test_84 : decode M_X11_test.2.1 84 = .ok (.iadd, 1) := by decide +kernel
theorem d_X11_test_85 : decode M_X11_test.2.1 85 = .ok (.putfield 273, 3) := by decide +kernel
theorem d_X11_test_88 : decode M_X11_test.2.1 88 = .ok (.aload_n 0, 1) := by decide +kernel
theorem d_X11_test_89 : decode M_X11_test.2.1 89 = .ok (.getfield 273, 3) := by decide +kernel
theorem d_X11_test_92 : decode M_X11_test.2.1 92 = .ok (.iconst 1, 1) := by decide +kernel
theorem d_X11_test_93 : decode M_X11_test.2.1 93 = .ok (.isub, 1) := by decide +kernel
theorem d_X11_test_94 : decode M_X11_test.2.1 94 = .ok (.ireturn, 1) := by decide +kernel
theorem ce_X11_test : zw_CeV M_X11_test 3 := ⟨⟨⟨by decide +kernel, by decide +kernel, by decide +kernel⟩, (zw_mG (List.mem_of_getElem? (i := 1684) (by decide +kernel)) rfl), (zw_mG (List.mem_of_getElem? (i := 108) (by decide +kernel)) rfl), by decide, by decide +kernel⟩, (zw_mG (List.mem_of_getElem? (i := 1682) (by decide +kernel)) rfl), (zw_mG (List.mem_of_getElem? (i := 1683) (by decide +kernel)) rfl)⟩
def f_X11_test (v0 : Nat) (v1 : Int32) (v2 : Int32) (v3 : Int32) (I : zI) (R : zR) : Option (Int32 × zI) :=
  zw_g (zw_gc v0 11) (if (I v0 75) = 60 then some ((-1), I) else (f_X11_cutRow v0 v1 I R).bind fun q3 => (if q3 = (-1) then some ((-1), I) else (f_X11_isColour v2).bind fun q5 => (if q5 = 0 then some ((-1), I) else (f_X11_in v3 0 100000).bind fun q7 => (if ¬ q7 = 0 then zw_g (zw_gc (R v0 76) 13) (zw_g (zw_in (I v0 75) (zw_SH (R v0 76)).2) (zw_let (zw_u I (R v0 76) (Int32.toNatClampNeg (I v0 75)) (-1) : zI) fun I11 => (zw_g (zw_gc (R v0 77) 13) (zw_g (zw_in (I11 v0 75) (zw_SH (R v0 77)).2) (zw_let (zw_u I11 (R v0 77) (Int32.toNatClampNeg (I11 v0 75)) v1 : zI) fun I14 => (zw_g (zw_gc (R v0 78) 13) (zw_g (zw_in (I14 v0 75) (zw_SH (R v0 78)).2) (zw_let (zw_u I14 (R v0 78) (Int32.toNatClampNeg (I14 v0 75)) v2 : zI) fun I17 => (zw_g (zw_gc (R v0 79) 13) (zw_g (zw_in (I17 v0 75) (zw_SH (R v0 79)).2) (zw_let (zw_u I17 (R v0 79) (Int32.toNatClampNeg (I17 v0 75)) v3 : zI) fun I20 => (zw_let (zw_u I20 v0 75 ((I20 v0 75) + 1) : zI) fun I21 => (some (((I21 v0 75) - 1), I21)))))))))))))) else some ((-1), I)))))
theorem c_X11_test (X : zw_X) (v0 : Nat) (v1 : Int32) (v2 : Int32) (v3 : Int32) (I : zI) (R : zR) (J : zJ) {P : Option Value → aS → Prop} (o : Int32 × zI) (hf : f_X11_test v0 v1 v2 v3 I R = some o) (hk : P (some (.int o.1)) (o.2, R, J)) : zw_C X M_X11_test 2 0 0 199 [.ref v0, .int v1, .int v2, .int v3] (I, R, J) P := by
  show zy_V X M_X11_test 2 P 0 [.ref v0, .int v1, .int v2, .int v3] [] (I, R, J)
  unfold f_X11_test at hf
  refine zv_aload_n (pc := 0) d_X11_test_0 rfl ?_
  obtain ⟨g1, hf⟩ := zw_gcE hf (by decide)
  refine zx_getI (pc := 1) d_X11_test_1 lk_CutStonesModel_273 (by decide) g1 ?_
  refine zv_bipush (pc := 4) d_X11_test_4 zc_b_60 ?_
  rcases zw_ifE hf with ⟨c2, hf⟩ | ⟨c2, hf⟩
  · refine zv_icmp_eq (pc := 6) (tg := 36) d_X11_test_6 (by decide) (fun _ => ?_) (fun q => absurd c2 q)
    refine zv_iconst (pc := 36) d_X11_test_36 zc_i_m1 ?_
    cases hf
    exact zx_iret (pc := 37) d_X11_test_37 rfl hk
  · refine zv_icmp_eq (pc := 6) (tg := 36) d_X11_test_6 (by decide) (fun q => absurd q c2) (fun _ => ?_)
    refine zv_aload_n (pc := 9) d_X11_test_9 rfl ?_
    refine zv_iload_n (pc := 10) d_X11_test_10 rfl ?_
    obtain ⟨q3, hq3, hf⟩ := zw_bdE hf
    refine zx_callV (pc := 11) (As := [.int v1]) (o := v0) (st := []) (d2 := 1) (M2 := M_X11_cutRow) (P2 := (fun r S => r = (some (.int q3)) ∧ S = (I, R, J))) d_X11_test_11 (zw_mG (List.mem_of_getElem? (i := 1525) (by decide +kernel)) rfl) ce_X11_cutRow (zw_RvK g1 rfl rfl) (Nat.le_of_ble_eq_true rfl) rfl (Nat.le_of_ble_eq_true rfl) (by decide) (c_X11_cutRow X v0 v1 I R J _ hq3 ⟨rfl, rfl⟩) ?_
    rintro _ _ ⟨rfl, rfl⟩
    show zy_V X M_X11_test 2 P (11 + 3) [.ref v0, .int v1, .int v2, .int v3] [.int q3] (I, R, J)
    refine zv_iconst (pc := 14) d_X11_test_14 zc_i_m1 ?_
    rcases zw_ifE hf with ⟨c4, hf⟩ | ⟨c4, hf⟩
    · refine zv_icmp_eq (pc := 15) (tg := 36) d_X11_test_15 (by decide) (fun _ => ?_) (fun q => absurd c4 q)
      refine zv_iconst (pc := 36) d_X11_test_36 zc_i_m1 ?_
      cases hf
      exact zx_iret (pc := 37) d_X11_test_37 rfl hk
    · refine zv_icmp_eq (pc := 15) (tg := 36) d_X11_test_15 (by decide) (fun q => absurd q c4) (fun _ => ?_)
      refine zv_iload_n (pc := 18) d_X11_test_18 rfl ?_
      obtain ⟨q5, hq5, hf⟩ := zw_bdE hf
      refine zx_callS (pc := 19) (As := [.int v2]) (st := []) (d2 := 0) (M2 := M_X11_isColour) (P2 := (fun r S => r = (some (.int q5)) ∧ S = (I, R, J))) d_X11_test_19 (zw_mG (List.mem_of_getElem? (i := 1556) (by decide +kernel)) rfl) ce_X11_isColour (Nat.le_of_ble_eq_true rfl) rfl (Nat.le_of_ble_eq_true rfl) (by decide) (c_X11_isColour X v2 I R J _ hq5 ⟨rfl, rfl⟩) ?_
      rintro _ _ ⟨rfl, rfl⟩
      show zy_V X M_X11_test 2 P (19 + 3) [.ref v0, .int v1, .int v2, .int v3] [.int q5] (I, R, J)
      rcases zw_ifE hf with ⟨c6, hf⟩ | ⟨c6, hf⟩
      · refine zv_if_eq (pc := 22) (tg := 36) d_X11_test_22 (by decide) (fun _ => ?_) (fun q => absurd c6 q)
        refine zv_iconst (pc := 36) d_X11_test_36 zc_i_m1 ?_
        cases hf
        exact zx_iret (pc := 37) d_X11_test_37 rfl hk
      · refine zv_if_eq (pc := 22) (tg := 36) d_X11_test_22 (by decide) (fun q => absurd q c6) (fun _ => ?_)
        refine zv_iload_n (pc := 25) d_X11_test_25 rfl ?_
        refine zv_iconst (pc := 26) d_X11_test_26 zc_i_0 ?_
        refine zv_ldcw (pc := 27) (v := 100000) d_X11_test_27 (zw_mG (List.mem_of_getElem? (i := 1559) (by decide +kernel)) rfl) ?_
        obtain ⟨q7, hq7, hf⟩ := zw_bdE hf
        refine zx_callS (pc := 30) (As := [.int v3, .int 0, .int 100000]) (st := []) (d2 := 0) (M2 := M_X11_in) (P2 := (fun r S => r = (some (.int q7)) ∧ S = (I, R, J))) d_X11_test_30 (zw_mG (List.mem_of_getElem? (i := 1522) (by decide +kernel)) rfl) ce_X11_in (Nat.le_of_ble_eq_true rfl) rfl (Nat.le_of_ble_eq_true rfl) (by decide) (c_X11_in X v3 0 100000 I R J _ hq7 ⟨rfl, rfl⟩) ?_
        rintro _ _ ⟨rfl, rfl⟩
        show zy_V X M_X11_test 2 P (30 + 3) [.ref v0, .int v1, .int v2, .int v3] [.int q7] (I, R, J)
        rcases zw_ifE hf with ⟨c8, hf⟩ | ⟨c8, hf⟩
        · refine zv_if_ne (pc := 33) (tg := 38) d_X11_test_33 (by decide) (fun _ => ?_) (fun q => absurd q c8)
          refine zv_aload_n (pc := 38) d_X11_test_38 rfl ?_
          obtain ⟨g9, hf⟩ := zw_gcE hf (by decide)
          refine zx_getR (pc := 39) d_X11_test_39 lk_CutStonesModel_161 (by decide) g1 g9 ?_
          refine zv_aload_n (pc := 42) d_X11_test_42 rfl ?_
          refine zx_getI (pc := 43) d_X11_test_43 lk_CutStonesModel_273 (by decide) g1 ?_
          refine zv_iconst (pc := 46) d_X11_test_46 zc_i_m1 ?_
          obtain ⟨i10, hf⟩ := zw_inE hf
          obtain ⟨I11, eI11, hf⟩ := zw_letE hf
          refine zx_iast (pc := 47) (I2 := I11) d_X11_test_47 g9 i10 eI11 ?_
          refine zv_aload_n (pc := 48) d_X11_test_48 rfl ?_
          obtain ⟨g12, hf⟩ := zw_gcE hf (by decide)
          refine zx_getR (pc := 49) d_X11_test_49 lk_CutStonesModel_164 (by decide) g1 g12 ?_
          refine zv_aload_n (pc := 52) d_X11_test_52 rfl ?_
          refine zx_getI (pc := 53) d_X11_test_53 lk_CutStonesModel_273 (by decide) g1 ?_
          refine zv_iload_n (pc := 56) d_X11_test_56 rfl ?_
          obtain ⟨i13, hf⟩ := zw_inE hf
          obtain ⟨I14, eI14, hf⟩ := zw_letE hf
          refine zx_iast (pc := 57) (I2 := I14) d_X11_test_57 g12 i13 eI14 ?_
          refine zv_aload_n (pc := 58) d_X11_test_58 rfl ?_
          obtain ⟨g15, hf⟩ := zw_gcE hf (by decide)
          refine zx_getR (pc := 59) d_X11_test_59 lk_CutStonesModel_167 (by decide) g1 g15 ?_
          refine zv_aload_n (pc := 62) d_X11_test_62 rfl ?_
          refine zx_getI (pc := 63) d_X11_test_63 lk_CutStonesModel_273 (by decide) g1 ?_
          refine zv_iload_n (pc := 66) d_X11_test_66 rfl ?_
          obtain ⟨i16, hf⟩ := zw_inE hf
          obtain ⟨I17, eI17, hf⟩ := zw_letE hf
          refine zx_iast (pc := 67) (I2 := I17) d_X11_test_67 g15 i16 eI17 ?_
          refine zv_aload_n (pc := 68) d_X11_test_68 rfl ?_
          obtain ⟨g18, hf⟩ := zw_gcE hf (by decide)
          refine zx_getR (pc := 69) d_X11_test_69 lk_CutStonesModel_170 (by decide) g1 g18 ?_
          refine zv_aload_n (pc := 72) d_X11_test_72 rfl ?_
          refine zx_getI (pc := 73) d_X11_test_73 lk_CutStonesModel_273 (by decide) g1 ?_
          refine zv_iload_n (pc := 76) d_X11_test_76 rfl ?_
          obtain ⟨i19, hf⟩ := zw_inE hf
          obtain ⟨I20, eI20, hf⟩ := zw_letE hf
          refine zx_iast (pc := 77) (I2 := I20) d_X11_test_77 g18 i19 eI20 ?_
          refine zv_aload_n (pc := 78) d_X11_test_78 rfl ?_
          refine zv_dup (pc := 79) d_X11_test_79 rfl ?_
          refine zx_getI (pc := 80) d_X11_test_80 lk_CutStonesModel_273 (by decide) g1 ?_
          refine zv_iconst (pc := 83) d_X11_test_83 zc_i_1 ?_
          refine zv_iadd (pc := 84) d_X11_test_84 ?_
          obtain ⟨I21, eI21, hf⟩ := zw_letE hf
          refine zx_putI (pc := 85) (I2 := I21) d_X11_test_85 lk_CutStonesModel_273 rfl g1 eI21 ?_
          refine zv_aload_n (pc := 88) d_X11_test_88 rfl ?_
          refine zx_getI (pc := 89) d_X11_test_89 lk_CutStonesModel_273 (by decide) g1 ?_
          refine zv_iconst (pc := 92) d_X11_test_92 zc_i_1 ?_
          refine zv_isub (pc := 93) d_X11_test_93 ?_
          cases hf
          exact zx_iret (pc := 94) d_X11_test_94 rfl hk
        · refine zv_if_ne (pc := 33) (tg := 38) d_X11_test_33 (by decide) (fun q => absurd q c8) (fun _ => ?_)
          refine zv_iconst (pc := 36) d_X11_test_36 zc_i_m1 ?_
          cases hf
          exact zx_iret (pc := 37) d_X11_test_37 rfl hk
abbrev M_X11_unit : zw_M := (⟨"CutStonesModel", "unit", "()V"⟩, prog_13_method_32_code, 1, (Option.none : Option Jvm.ClassFile.FieldType))
theorem d_X11_unit_0 : decode M_X11_unit.2.1 0 = .ok (.aload_n 0, 1) := by decide +kernel
theorem d_X11_unit_1 : decode M_X11_unit.2.1 1 = .ok (.iconst 2, 1) := by decide +kernel
theorem d_X11_unit_2 : decode M_X11_unit.2.1 2 = .ok (.invokevirtual 236, 3) := by decide +kernel
theorem d_X11_unit_5 : decode M_X11_unit.2.1 5 = .ok (.ifCond .eq 24, 3) := by decide +kernel
theorem d_X11_unit_8 : decode M_X11_unit.2.1 8 = .ok (.aload_n 0, 1) := by decide +kernel
theorem d_X11_unit_9 : decode M_X11_unit.2.1 9 = .ok (.iconst 0, 1) := by decide +kernel
theorem d_X11_unit_10 : decode M_X11_unit.2.1 10 = .ok (.aload_n 0, 1) := by decide +kernel
theorem d_X11_unit_11 : decode M_X11_unit.2.1 11 = .ok (.getfield 27, 3) := by decide +kernel
theorem d_X11_unit_14 : decode M_X11_unit.2.1 14 = .ok (.aload_n 0, 1) := by decide +kernel
theorem d_X11_unit_15 : decode M_X11_unit.2.1 15 = .ok (.getfield 221, 3) := by decide +kernel
theorem d_X11_unit_18 : decode M_X11_unit.2.1 18 = .ok (.iaload, 1) := by decide +kernel
theorem d_X11_unit_19 : decode M_X11_unit.2.1 19 = .ok (.invokevirtual 309, 3) := by decide +kernel
theorem d_X11_unit_22 : decode M_X11_unit.2.1 22 = .ok (.aload_n 0, 1) := by decide +kernel
theorem d_X11_unit_23 : decode M_X11_unit.2.1 23 = .ok (.invokevirtual 239, 3) := by decide +kernel
theorem d_X11_unit_26 : decode M_X11_unit.2.1 26 = .ok (.goto 67, 3) := by decide +kernel
theorem d_X11_unit_29 : decode M_X11_unit.2.1 29 = .ok (.aload_n 0, 1) := by decide +kernel
theorem d_X11_unit_30 : decode M_X11_unit.2.1 30 = .ok (.getfield 218, 3) := by decide +kernel
theorem d_X11_unit_33 : decode M_X11_unit.2.1 33 = .ok (.ifCond .ne 55, 3) := by decide +kernel
theorem d_X11_unit_36 : decode M_X11_unit.2.1 36 = .ok (.aload_n 0, 1) := by decide +kernel
theorem d_X11_unit_37 : decode M_X11_unit.2.1 37 = .ok (.getfield 20, 3) := by decide +kernel
theorem d_X11_unit_40 : decode M_X11_unit.2.1 40 = .ok (.aload_n 0, 1) := by decide +kernel
theorem d_X11_unit_41 : decode M_X11_unit.2.1 41 = .ok (.getfield 221, 3) := by decide +kernel
theorem d_X11_unit_44 : decode M_X11_unit.2.1 44 = .ok (.iaload, 1) := by decide +kernel
theorem d_X11_unit_45 : decode M_X11_unit.2.1 45 = .ok (.bipush 30, 2) := by decide +kernel
theorem d_X11_unit_47 : decode M_X11_unit.2.1 47 = .ok (.if_icmp .lt 41, 3) := by decide +kernel
theorem d_X11_unit_50 : decode M_X11_unit.2.1 50 = .ok (.aload_n 0, 1) := by decide +kernel
theorem d_X11_unit_51 : decode M_X11_unit.2.1 51 = .ok (.getfield 20, 3) := by decide +kernel
theorem d_X11_unit_54 : decode M_X11_unit.2.1 54 = .ok (.aload_n 0, 1) := by decide +kernel
theorem d_X11_unit_55 : decode M_X11_unit.2.1 55 = .ok (.getfield 221, 3) := by decide +kernel
theorem d_X11_unit_58 : decode M_X11_unit.2.1 58 = .ok (.iaload, 1) := by decide +kernel
theorem d_X11_unit_59 : decode M_X11_unit.2.1 59 = .ok (.bipush 37, 2) := by decide +kernel
theorem d_X11_unit_61 : decode M_X11_unit.2.1 61 = .ok (.if_icmp .gt 27, 3) := by decide +kernel
theorem d_X11_unit_64 : decode M_X11_unit.2.1 64 = .ok (.aload_n 0, 1) := by decide +kernel
theorem d_X11_unit_65 : decode M_X11_unit.2.1 65 = .ok (.iconst 1, 1) := by decide +kernel
theorem d_X11_unit_66 : decode M_X11_unit.2.1 66 = .ok (.aload_n 0, 1) := by decide +kernel
theorem d_X11_unit_67 : decode M_X11_unit.2.1 67 = .ok (.getfield 20, 3) := by decide +kernel
theorem d_X11_unit_70 : decode M_X11_unit.2.1 70 = .ok (.aload_n 0, 1) := by decide +kernel
theorem d_X11_unit_71 : decode M_X11_unit.2.1 71 = .ok (.getfield 221, 3) := by decide +kernel
theorem d_X11_unit_74 : decode M_X11_unit.2.1 74 = .ok (.iaload, 1) := by decide +kernel
theorem d_X11_unit_75 : decode M_X11_unit.2.1 75 = .ok (.bipush 30, 2) := by decide +kernel
theorem d_X11_unit_77 : decode M_X11_unit.2.1 77 = .ok (.isub, 1) := by decide +kernel
theorem d_X11_unit_78 : decode M_X11_unit.2.1 78 = .ok (.invokevirtual 309, 3) := by decide +kernel
theorem d_X11_unit_81 : decode M_X11_unit.2.1 81 = .ok (.aload_n 0, 1) := by decide +kernel
theorem d_X11_unit_82 : decode M_X11_unit.2.1 82 = .ok (.invokevirtual 239, 3) := by decide +kernel
theorem d_X11_unit_85 : decode M_X11_unit.2.1 85 = .ok (.goto 8, 3) := by decide +kernel
theorem d_X11_unit_88 : decode M_X11_unit.2.1 88 = .ok (.aload_n 0, 1) := by decide +kernel
theorem d_X11_unit_89 : decode M_X11_unit.2.1 89 = .ok (.iconst 1, 1) := by decide +kernel
theorem d_X11_unit_90 : decode M_X11_unit.2.1 90 = .ok (.invokevirtual 233, 3) := by decide +kernel
theorem d_X11_unit_93 : decode M_X11_unit.2.1 93 = .ok (.return_, 1) := by decide +kernel
theorem ce_X11_unit : zw_CeV M_X11_unit 0 := ⟨⟨⟨by decide +kernel, by decide +kernel, by decide +kernel⟩, (zw_mG (List.mem_of_getElem? (i := 1493) (by decide +kernel)) rfl), (zw_mG (List.mem_of_getElem? (i := 108) (by decide +kernel)) rfl), by decide, by decide +kernel⟩, (zw_mG (List.mem_of_getElem? (i := 1492) (by decide +kernel)) rfl), (zw_mG (List.mem_of_getElem? (i := 66) (by decide +kernel)) rfl)⟩
def j_X11_unit_88 (v0 : Nat) (I : zI) (R : zR) : Option (zI) :=
  zw_g (zw_gc v0 11) ((f_X11_fail v0 1 I R).bind fun q6 => (some q6))
theorem j_X11_unit_88_ok (X : zw_X) (P : Option Value → aS → Prop) (v0 : Nat) (I : zI) (R : zR) (J : zJ) (o : zI) (hf : j_X11_unit_88 v0 I R = some o) (hk : P none (o, R, J)) : zy_V X M_X11_unit 2 P 88 [.ref v0] [] (I, R, J) := by
  unfold j_X11_unit_88 at hf
  refine zv_aload_n (pc := 88) d_X11_unit_88 rfl ?_
  refine zv_iconst (pc := 89) d_X11_unit_89 zc_i_1 ?_
  obtain ⟨g5, hf⟩ := zw_gcE hf (by decide)
  obtain ⟨q6, hq6, hf⟩ := zw_bdE hf
  refine zx_callV (pc := 90) (As := [.int 1]) (o := v0) (st := []) (d2 := 0) (M2 := M_X11_fail) (P2 := (fun r S => r = none ∧ S = (q6, R, J))) d_X11_unit_90 (zw_mG (List.mem_of_getElem? (i := 1450) (by decide +kernel)) rfl) ce_X11_fail (zw_RvK g5 rfl rfl) (Nat.le_of_ble_eq_true rfl) rfl (Nat.le_of_ble_eq_true rfl) (by decide) (c_X11_fail X v0 1 I R J _ hq6 ⟨rfl, rfl⟩) ?_
  rintro _ _ ⟨rfl, rfl⟩
  show zy_V X M_X11_unit 2 P (90 + 3) [.ref v0] [] (q6, R, J)
  cases hf
  exact zx_vret (pc := 93) d_X11_unit_93 rfl hk
def f_X11_unit (v0 : Nat) (I : zI) (R : zR) : Option (zI) :=
  zw_g (zw_gc v0 11) ((f_X11_is v0 2 I R).bind fun q2 => (if q2 = 0 then if ¬ (I v0 13) = 0 then j_X11_unit_88 v0 I R else zw_g (zw_gc (R v0 5) 13) (zw_g (zw_in (I v0 11) (zw_SH (R v0 5)).2) (if (I (R v0 5) (Int32.toNatClampNeg (I v0 11))) < 30 then j_X11_unit_88 v0 I R else zw_g (zw_in (I v0 11) (zw_SH (R v0 5)).2) (if 37 < (I (R v0 5) (Int32.toNatClampNeg (I v0 11))) then j_X11_unit_88 v0 I R else zw_g (zw_in (I v0 11) (zw_SH (R v0 5)).2) ((f_X11_emit v0 1 ((I (R v0 5) (Int32.toNatClampNeg (I v0 11))) - 30) I R).bind fun q13 => ((f_X11_goesOn v0 q13 R).bind fun q14 => (some q14)))))) else zw_g (zw_gc (R v0 7) 13) (zw_g (zw_in (I v0 11) (zw_SH (R v0 7)).2) ((f_X11_emit v0 0 (I (R v0 7) (Int32.toNatClampNeg (I v0 11))) I R).bind fun q17 => ((f_X11_goesOn v0 q17 R).bind fun q18 => (some q18))))))
theorem c_X11_unit (X : zw_X) (v0 : Nat) (I : zI) (R : zR) (J : zJ) {P : Option Value → aS → Prop} (o : zI) (hf : f_X11_unit v0 I R = some o) (hk : P none (o, R, J)) : zw_C X M_X11_unit 2 0 0 199 [.ref v0] (I, R, J) P := by
  show zy_V X M_X11_unit 2 P 0 [.ref v0] [] (I, R, J)
  unfold f_X11_unit at hf
  refine zv_aload_n (pc := 0) d_X11_unit_0 rfl ?_
  refine zv_iconst (pc := 1) d_X11_unit_1 zc_i_2 ?_
  obtain ⟨g1, hf⟩ := zw_gcE hf (by decide)
  obtain ⟨q2, hq2, hf⟩ := zw_bdE hf
  refine zx_callV (pc := 2) (As := [.int 2]) (o := v0) (st := []) (d2 := 0) (M2 := M_X11_is) (P2 := (fun r S => r = (some (.int q2)) ∧ S = (I, R, J))) d_X11_unit_2 (zw_mG (List.mem_of_getElem? (i := 1442) (by decide +kernel)) rfl) ce_X11_is (zw_RvK g1 rfl rfl) (Nat.le_of_ble_eq_true rfl) rfl (Nat.le_of_ble_eq_true rfl) (by decide) (c_X11_is X v0 2 I R J _ hq2 ⟨rfl, rfl⟩) ?_
  rintro _ _ ⟨rfl, rfl⟩
  show zy_V X M_X11_unit 2 P (2 + 3) [.ref v0] [.int q2] (I, R, J)
  rcases zw_ifE hf with ⟨c3, hf⟩ | ⟨c3, hf⟩
  · refine zv_if_eq (pc := 5) (tg := 29) d_X11_unit_5 (by decide) (fun _ => ?_) (fun q => absurd c3 q)
    refine zv_aload_n (pc := 29) d_X11_unit_29 rfl ?_
    refine zx_getI (pc := 30) d_X11_unit_30 lk_CutStonesModel_218 (by decide) g1 ?_
    rcases zw_ifE hf with ⟨c4, hf⟩ | ⟨c4, hf⟩
    · refine zv_if_ne (pc := 33) (tg := 88) d_X11_unit_33 (by decide) (fun _ => ?_) (fun q => absurd q c4)
      exact zx_weak (zw_leS zw_leZ) (j_X11_unit_88_ok X P v0 I R J _ hf hk)
    · refine zv_if_ne (pc := 33) (tg := 88) d_X11_unit_33 (by decide) (fun q => absurd q c4) (fun _ => ?_)
      refine zv_aload_n (pc := 36) d_X11_unit_36 rfl ?_
      obtain ⟨g7, hf⟩ := zw_gcE hf (by decide)
      refine zx_getR (pc := 37) d_X11_unit_37 lk_CutStonesModel_20 (by decide) g1 g7 ?_
      refine zv_aload_n (pc := 40) d_X11_unit_40 rfl ?_
      refine zx_getI (pc := 41) d_X11_unit_41 lk_CutStonesModel_221 (by decide) g1 ?_
      obtain ⟨i8, hf⟩ := zw_inE hf
      refine zx_iald (pc := 44) d_X11_unit_44 g7 i8 ?_
      refine zv_bipush (pc := 45) d_X11_unit_45 zc_b_30 ?_
      rcases zw_ifE hf with ⟨c9, hf⟩ | ⟨c9, hf⟩
      · refine zv_icmp_lt (pc := 47) (tg := 88) d_X11_unit_47 (by decide) (fun _ => ?_) (fun q => absurd c9 q)
        exact zx_weak (zw_leS zw_leZ) (j_X11_unit_88_ok X P v0 I R J _ hf hk)
      · refine zv_icmp_lt (pc := 47) (tg := 88) d_X11_unit_47 (by decide) (fun q => absurd q c9) (fun _ => ?_)
        refine zv_aload_n (pc := 50) d_X11_unit_50 rfl ?_
        refine zx_getR (pc := 51) d_X11_unit_51 lk_CutStonesModel_20 (by decide) g1 g7 ?_
        refine zv_aload_n (pc := 54) d_X11_unit_54 rfl ?_
        refine zx_getI (pc := 55) d_X11_unit_55 lk_CutStonesModel_221 (by decide) g1 ?_
        obtain ⟨i10, hf⟩ := zw_inE hf
        refine zx_iald (pc := 58) d_X11_unit_58 g7 i10 ?_
        refine zv_bipush (pc := 59) d_X11_unit_59 zc_b_37 ?_
        rcases zw_ifE hf with ⟨c11, hf⟩ | ⟨c11, hf⟩
        · refine zv_icmp_gt (pc := 61) (tg := 88) d_X11_unit_61 (by decide) (fun _ => ?_) (fun q => absurd c11 q)
          exact zx_weak (zw_leS zw_leZ) (j_X11_unit_88_ok X P v0 I R J _ hf hk)
        · refine zv_icmp_gt (pc := 61) (tg := 88) d_X11_unit_61 (by decide) (fun q => absurd q c11) (fun _ => ?_)
          refine zv_aload_n (pc := 64) d_X11_unit_64 rfl ?_
          refine zv_iconst (pc := 65) d_X11_unit_65 zc_i_1 ?_
          refine zv_aload_n (pc := 66) d_X11_unit_66 rfl ?_
          refine zx_getR (pc := 67) d_X11_unit_67 lk_CutStonesModel_20 (by decide) g1 g7 ?_
          refine zv_aload_n (pc := 70) d_X11_unit_70 rfl ?_
          refine zx_getI (pc := 71) d_X11_unit_71 lk_CutStonesModel_221 (by decide) g1 ?_
          obtain ⟨i12, hf⟩ := zw_inE hf
          refine zx_iald (pc := 74) d_X11_unit_74 g7 i12 ?_
          refine zv_bipush (pc := 75) d_X11_unit_75 zc_b_30 ?_
          refine zv_isub (pc := 77) d_X11_unit_77 ?_
          obtain ⟨q13, hq13, hf⟩ := zw_bdE hf
          refine zx_callV (pc := 78) (As := [.int 1, .int ((I (R v0 5) (Int32.toNatClampNeg (I v0 11))) - 30)]) (o := v0) (st := []) (d2 := 0) (M2 := M_X11_emit) (P2 := (fun r S => r = none ∧ S = (q13, R, J))) d_X11_unit_78 (zw_mG (List.mem_of_getElem? (i := 1494) (by decide +kernel)) rfl) ce_X11_emit (zw_RvK g1 rfl rfl) (Nat.le_of_ble_eq_true rfl) rfl (Nat.le_of_ble_eq_true rfl) (by decide) (c_X11_emit X v0 1 ((I (R v0 5) (Int32.toNatClampNeg (I v0 11))) - 30) I R J _ hq13 ⟨rfl, rfl⟩) ?_
          rintro _ _ ⟨rfl, rfl⟩
          show zy_V X M_X11_unit 2 P (78 + 3) [.ref v0] [] (q13, R, J)
          refine zv_aload_n (pc := 81) d_X11_unit_81 rfl ?_
          obtain ⟨q14, hq14, hf⟩ := zw_bdE hf
          refine zx_callV (pc := 82) (As := []) (o := v0) (st := []) (d2 := 1) (M2 := M_X11_goesOn) (P2 := (fun r S => r = none ∧ S = (q14, R, J))) d_X11_unit_82 (zw_mG (List.mem_of_getElem? (i := 1458) (by decide +kernel)) rfl) ce_X11_goesOn (zw_RvK g1 rfl rfl) (Nat.le_of_ble_eq_true rfl) rfl (Nat.le_of_ble_eq_true rfl) (by decide) (c_X11_goesOn X v0 q13 R J _ hq14 ⟨rfl, rfl⟩) ?_
          rintro _ _ ⟨rfl, rfl⟩
          show zy_V X M_X11_unit 2 P (82 + 3) [.ref v0] [] (q14, R, J)
          refine zv_goto (pc := 85) (tg := 93) d_X11_unit_85 (by decide) ?_
          cases hf
          exact zx_vret (pc := 93) d_X11_unit_93 rfl hk
  · refine zv_if_eq (pc := 5) (tg := 29) d_X11_unit_5 (by decide) (fun q => absurd q c3) (fun _ => ?_)
    refine zv_aload_n (pc := 8) d_X11_unit_8 rfl ?_
    refine zv_iconst (pc := 9) d_X11_unit_9 zc_i_0 ?_
    refine zv_aload_n (pc := 10) d_X11_unit_10 rfl ?_
    obtain ⟨g15, hf⟩ := zw_gcE hf (by decide)
    refine zx_getR (pc := 11) d_X11_unit_11 lk_CutStonesModel_27 (by decide) g1 g15 ?_
    refine zv_aload_n (pc := 14) d_X11_unit_14 rfl ?_
    refine zx_getI (pc := 15) d_X11_unit_15 lk_CutStonesModel_221 (by decide) g1 ?_
    obtain ⟨i16, hf⟩ := zw_inE hf
    refine zx_iald (pc := 18) d_X11_unit_18 g15 i16 ?_
    obtain ⟨q17, hq17, hf⟩ := zw_bdE hf
    refine zx_callV (pc := 19) (As := [.int 0, .int (I (R v0 7) (Int32.toNatClampNeg (I v0 11)))]) (o := v0) (st := []) (d2 := 0) (M2 := M_X11_emit) (P2 := (fun r S => r = none ∧ S = (q17, R, J))) d_X11_unit_19 (zw_mG (List.mem_of_getElem? (i := 1494) (by decide +kernel)) rfl) ce_X11_emit (zw_RvK g1 rfl rfl) (Nat.le_of_ble_eq_true rfl) rfl (Nat.le_of_ble_eq_true rfl) (by decide) (c_X11_emit X v0 0 (I (R v0 7) (Int32.toNatClampNeg (I v0 11))) I R J _ hq17 ⟨rfl, rfl⟩) ?_
    rintro _ _ ⟨rfl, rfl⟩
    show zy_V X M_X11_unit 2 P (19 + 3) [.ref v0] [] (q17, R, J)
    refine zv_aload_n (pc := 22) d_X11_unit_22 rfl ?_
    obtain ⟨q18, hq18, hf⟩ := zw_bdE hf
    refine zx_callV (pc := 23) (As := []) (o := v0) (st := []) (d2 := 1) (M2 := M_X11_goesOn) (P2 := (fun r S => r = none ∧ S = (q18, R, J))) d_X11_unit_23 (zw_mG (List.mem_of_getElem? (i := 1458) (by decide +kernel)) rfl) ce_X11_goesOn (zw_RvK g1 rfl rfl) (Nat.le_of_ble_eq_true rfl) rfl (Nat.le_of_ble_eq_true rfl) (by decide) (c_X11_goesOn X v0 q17 R J _ hq18 ⟨rfl, rfl⟩) ?_
    rintro _ _ ⟨rfl, rfl⟩
    show zy_V X M_X11_unit 2 P (23 + 3) [.ref v0] [] (q18, R, J)
    refine zv_goto (pc := 26) (tg := 93) d_X11_unit_26 (by decide) ?_
    cases hf
    exact zx_vret (pc := 93) d_X11_unit_93 rfl hk
abbrev M_X2_follow : zw_M := (⟨"CutStones$Light", "follow", "(LCutStones$Drawing;III)V"⟩, prog_4_method_3_code, 6, (Option.none : Option Jvm.ClassFile.FieldType))
theorem d_X2_follow_0 : decode M_X2_follow.2.1 0 = .ok (.aload_n 0, 1) := by decide +kernel
theorem d_X2_follow_1 : decode M_X2_follow.2.1 1 = .ok (.iconst 0, 1) := by decide +kernel
theorem d_X2_follow_2 : decode M_X2_follow.2.1 2 = .ok (.putfield 15, 3) := by decide +kernel
theorem d_X2_follow_5 : decode M_X2_follow.2.1 5 = .ok (.aload_n 0, 1) := by decide +kernel
theorem d_X2_follow_6 : decode M_X2_follow.2.1 6 = .ok (.aload_n 1, 1) := by decide +kernel
theorem d_X2_follow_7 : decode M_X2_follow.2.1 7 = .ok (.iload_n 2, 1) := by decide +kernel
theorem d_X2_follow_8 : decode M_X2_follow.2.1 8 = .ok (.iload_n 3, 1) := by decide +kernel
theorem d_X2_follow_9 : decode M_X2_follow.2.1 9 = .ok (.iload 4, 2) := by decide +kernel
theorem d_X2_follow_11 : decode M_X2_follow.2.1 11 = .ok (.invokevirtual 62, 3) := by decide +kernel
theorem d_X2_follow_14 : decode M_X2_follow.2.1 14 = .ok (.iconst 0, 1) := by decide +kernel
theorem d_X2_follow_15 : decode M_X2_follow.2.1 15 = .ok (.istore 5, 2) := by decide +kernel
theorem d_X2_follow_17 : decode M_X2_follow.2.1 17 = .ok (.iload 5, 2) := by decide +kernel
theorem d_X2_follow_19 : decode M_X2_follow.2.1 19 = .ok (.sipush 300, 3) := by decide +kernel
theorem d_X2_follow_22 : decode M_X2_follow.2.1 22 = .ok (.if_icmp .ge 21, 3) := by decide +kernel
theorem d_X2_follow_25 : decode M_X2_follow.2.1 25 = .ok (.aload_n 0, 1) := by decide +kernel
theorem d_X2_follow_26 : decode M_X2_follow.2.1 26 = .ok (.getfield 46, 3) := by decide +kernel
theorem d_X2_follow_29 : decode M_X2_follow.2.1 29 = .ok (.ifCond .le 14, 3) := by decide +kernel
theorem d_X2_follow_32 : decode M_X2_follow.2.1 32 = .ok (.aload_n 0, 1) := by decide +kernel
theorem d_X2_follow_33 : decode M_X2_follow.2.1 33 = .ok (.aload_n 1, 1) := by decide +kernel
theorem d_X2_follow_34 : decode M_X2_follow.2.1 34 = .ok (.invokevirtual 66, 3) := by decide +kernel
theorem d_X2_follow_37 : decode M_X2_follow.2.1 37 = .ok (.iinc 5 1, 3) := by decide +kernel
theorem d_X2_follow_40 : decode M_X2_follow.2.1 40 = .ok (.goto (-23), 3) := by decide +kernel
theorem d_X2_follow_43 : decode M_X2_follow.2.1 43 = .ok (.aload_n 0, 1) := by decide +kernel
theorem d_X2_follow_44 : decode M_X2_follow.2.1 44 = .ok (.getfield 19, 3) := by decide +kernel
theorem d_X2_follow_47 : decode M_X2_follow.2.1 47 = .ok (.bipush 6, 2) := by decide +kernel
theorem d_X2_follow_49 : decode M_X2_follow.2.1 49 = .ok (.dup2, 1) := by decide +kernel
theorem d_X2_follow_50 : decode M_X2_follow.2.1 50 = .ok (.iaload, 1) := by decide +kernel
theorem d_X2_follow_51 : decode M_X2_follow.2.1 51 = .ok (.aload_n 0, 1) := by decide +kernel
theorem d_X2_follow_52 : decode M_X2_follow.2.1 52 = .ok (.getfield 46, 3) := by decide +kernel
theorem d_X2_follow_55 : decode M_X2_follow.2.1 55 = .ok (.iadd, 1) := by decide +kernel
theorem d_X2_follow_56 : decode M_X2_follow.2.1 56 = .ok (.iastore, 1) := by decide +kernel
theorem d_X2_follow_57 : decode M_X2_follow.2.1 57 = .ok (.return_, 1) := by decide +kernel
theorem ce_X2_follow : zw_CeV M_X2_follow 4 := ⟨⟨⟨by decide +kernel, by decide +kernel, by decide +kernel⟩, (zw_mG (List.mem_of_getElem? (i := 900) (by decide +kernel)) rfl), (zw_mG (List.mem_of_getElem? (i := 103) (by decide +kernel)) rfl), by decide, by decide +kernel⟩, (zw_mG (List.mem_of_getElem? (i := 898) (by decide +kernel)) rfl), (zw_mG (List.mem_of_getElem? (i := 899) (by decide +kernel)) rfl)⟩
def s_X2_follow_17 (v0 : Nat) (v1 : Nat) (R : zR) (s : Int32 × zI) : Option ((Int32 × zI) ⊕ (zI)) :=
  if 300 ≤ s.1 then some (.inr s.2) else zw_g (zw_gc v0 2) (if (s.2 v0 11) ≤ 0 then some (.inr s.2) else (f_X2_goThrough v0 v1 s.2 R).bind fun q7 => (zw_let (s.1 + 1 : Int32) fun x8 => (some (.inl (x8, q7)))))
theorem s_X2_follow_17_ok (X : zw_X) (P : Option Value → aS → Prop) (v0 : Nat) (v1 : Nat) (R : zR) (J : zJ) (s : Int32 × zI) (o : (Int32 × zI) ⊕ (zI)) (hf : s_X2_follow_17 v0 v1 R s = some o) (hk : (zw_se (fun t => zy_V X M_X2_follow 2 P 17 [.ref v0, .ref v1, .null, .null, .null, .int t.1] [] (t.2, R, J)) (fun r => zy_V X M_X2_follow 2 P 43 [.ref v0, .null, .null, .null, .null, .null] [] (r, R, J)) o)) : zy_V X M_X2_follow 2 P 17 [.ref v0, .ref v1, .null, .null, .null, .int s.1] [] (s.2, R, J) := by
  unfold s_X2_follow_17 at hf
  refine zv_iload (pc := 17) d_X2_follow_17 rfl ?_
  refine zv_sipush (pc := 19) d_X2_follow_19 zc_s_300 ?_
  rcases zw_ifE hf with ⟨c4, hf⟩ | ⟨c4, hf⟩
  · refine zv_icmp_ge (pc := 22) (tg := 43) d_X2_follow_22 (by decide) (fun _ => ?_) (fun q => absurd c4 q)
    cases hf
    exact zx_weak (zw_leS (zw_leN (zw_leN (zw_leN (zw_leN (zw_leN zw_leZ)))))) hk
  · refine zv_icmp_ge (pc := 22) (tg := 43) d_X2_follow_22 (by decide) (fun q => absurd q c4) (fun _ => ?_)
    refine zv_aload_n (pc := 25) d_X2_follow_25 rfl ?_
    obtain ⟨g5, hf⟩ := zw_gcE hf (by decide)
    refine zx_getI (pc := 26) d_X2_follow_26 lk_CutStones_Light_46 (by decide) g5 ?_
    rcases zw_ifE hf with ⟨c6, hf⟩ | ⟨c6, hf⟩
    · refine zv_if_le (pc := 29) (tg := 43) d_X2_follow_29 (by decide) (fun _ => ?_) (fun q => absurd c6 q)
      cases hf
      exact zx_weak (zw_leS (zw_leN (zw_leN (zw_leN (zw_leN (zw_leN zw_leZ)))))) hk
    · refine zv_if_le (pc := 29) (tg := 43) d_X2_follow_29 (by decide) (fun q => absurd q c6) (fun _ => ?_)
      refine zv_aload_n (pc := 32) d_X2_follow_32 rfl ?_
      refine zv_aload_n (pc := 33) d_X2_follow_33 rfl ?_
      obtain ⟨q7, hq7, hf⟩ := zw_bdE hf
      refine zx_callV (pc := 34) (As := [.ref v1]) (o := v0) (st := []) (d2 := 1) (M2 := M_X2_goThrough) (P2 := (fun r S => r = none ∧ S = (q7, R, J))) d_X2_follow_34 (zw_mG (List.mem_of_getElem? (i := 912) (by decide +kernel)) rfl) ce_X2_goThrough (zw_RvK g5 rfl rfl) (Nat.le_of_ble_eq_true rfl) rfl (Nat.le_of_ble_eq_true rfl) (by decide) (c_X2_goThrough X v0 v1 s.2 R J _ hq7 ⟨rfl, rfl⟩) ?_
      rintro _ _ ⟨rfl, rfl⟩
      show zy_V X M_X2_follow 2 P (34 + 3) [.ref v0, .ref v1, .null, .null, .null, .int s.1] [] (q7, R, J)
      obtain ⟨x8, ex8, hf⟩ := zw_letE hf
      refine zx_iinc (pc := 37) (x2 := x8) (L2 := [.ref v0, .ref v1, .null, .null, .null, .int x8]) d_X2_follow_37 (by decide) rfl zc_i_1 ex8 rfl ?_
      refine zv_goto (pc := 40) (tg := 17) d_X2_follow_40 (by decide) ?_
      cases hf
      exact zx_weak (zw_leS (zw_leS (zw_leN (zw_leN (zw_leN (zw_leS zw_leZ)))))) hk
theorem s_X2_follow_17_lp (X : zw_X) (P : Option Value → aS → Prop) (v0 : Nat) (v1 : Nat) (R : zR) (J : zJ) (n : Nat) (s : Int32 × zI) (r : zI) (h : zw_it (s_X2_follow_17 v0 v1 R) n s = some r) (hq : zy_V X M_X2_follow 2 P 43 [.ref v0, .null, .null, .null, .null, .null] [] (r, R, J)) : zy_V X M_X2_follow 2 P 17 [.ref v0, .ref v1, .null, .null, .null, .int s.1] [] (s.2, R, J) :=
  zw_itE (A := (fun t : Int32 × zI => zy_V X M_X2_follow 2 P 17 [.ref v0, .ref v1, .null, .null, .null, .int t.1] [] (t.2, R, J))) (Q := (fun r : zI => zy_V X M_X2_follow 2 P 43 [.ref v0, .null, .null, .null, .null, .null] [] (r, R, J))) (fun s o h1 h2 => s_X2_follow_17_ok X P v0 v1 R J s o h1 h2) n s r h hq
def j_X2_follow_43 (v0 : Nat) (I : zI) (R : zR) : Option (zI) :=
  zw_g (zw_gc v0 2) (zw_g (zw_gc (R v0 2) 13) (zw_g (zw_in 6 (zw_SH (R v0 2)).2) (zw_g (zw_in 6 (zw_SH (R v0 2)).2) (zw_let (zw_u I (R v0 2) (Int32.toNatClampNeg 6) ((I (R v0 2) (Int32.toNatClampNeg 6)) + (I v0 11)) : zI) fun I14 => (some I14)))))
theorem j_X2_follow_43_ok (X : zw_X) (P : Option Value → aS → Prop) (v0 : Nat) (I : zI) (R : zR) (J : zJ) (o : zI) (hf : j_X2_follow_43 v0 I R = some o) (hk : P none (o, R, J)) : zy_V X M_X2_follow 2 P 43 [.ref v0, .null, .null, .null, .null, .null] [] (I, R, J) := by
  unfold j_X2_follow_43 at hf
  refine zv_aload_n (pc := 43) d_X2_follow_43 rfl ?_
  obtain ⟨g10, hf⟩ := zw_gcE hf (by decide)
  obtain ⟨g11, hf⟩ := zw_gcE hf (by decide)
  refine zx_getR (pc := 44) d_X2_follow_44 lk_CutStones_Light_19 (by decide) g10 g11 ?_
  refine zv_bipush (pc := 47) d_X2_follow_47 zc_b_6 ?_
  refine zv_dup2 (pc := 49) d_X2_follow_49 rfl rfl ?_
  obtain ⟨i12, hf⟩ := zw_inE hf
  refine zx_iald (pc := 50) d_X2_follow_50 g11 i12 ?_
  refine zv_aload_n (pc := 51) d_X2_follow_51 rfl ?_
  refine zx_getI (pc := 52) d_X2_follow_52 lk_CutStones_Light_46 (by decide) g10 ?_
  refine zv_iadd (pc := 55) d_X2_follow_55 ?_
  obtain ⟨i13, hf⟩ := zw_inE hf
  obtain ⟨I14, eI14, hf⟩ := zw_letE hf
  refine zx_iast (pc := 56) (I2 := I14) d_X2_follow_56 g11 i13 eI14 ?_
  cases hf
  exact zx_vret (pc := 57) d_X2_follow_57 rfl hk
def f_X2_follow (v0 : Nat) (v1 : Nat) (v2 : Int32) (v3 : Int32) (v4 : Int32) (I : zI) (R : zR) : Option (zI) :=
  zw_g (zw_gc v0 2) (zw_let (zw_u I v0 1 0 : zI) fun I2 => ((f_X2_enter v0 v1 v2 v3 v4 I2 R).bind fun q3 => ((zw_it (s_X2_follow_17 v0 v1 R) 1000000 (0, q3)).bind fun q9 => (j_X2_follow_43 v0 q9 R))))
theorem c_X2_follow (X : zw_X) (v0 : Nat) (v1 : Nat) (v2 : Int32) (v3 : Int32) (v4 : Int32) (I : zI) (R : zR) (J : zJ) {P : Option Value → aS → Prop} (o : zI) (hf : f_X2_follow v0 v1 v2 v3 v4 I R = some o) (hk : P none (o, R, J)) : zw_C X M_X2_follow 2 0 0 199 [.ref v0, .ref v1, .int v2, .int v3, .int v4] (I, R, J) P := by
  show zy_V X M_X2_follow 2 P 0 [.ref v0, .ref v1, .int v2, .int v3, .int v4, .null] [] (I, R, J)
  unfold f_X2_follow at hf
  refine zv_aload_n (pc := 0) d_X2_follow_0 rfl ?_
  refine zv_iconst (pc := 1) d_X2_follow_1 zc_i_0 ?_
  obtain ⟨g1, hf⟩ := zw_gcE hf (by decide)
  obtain ⟨I2, eI2, hf⟩ := zw_letE hf
  refine zx_putI (pc := 2) (I2 := I2) d_X2_follow_2 lk_CutStones_Light_15 rfl g1 eI2 ?_
  refine zv_aload_n (pc := 5) d_X2_follow_5 rfl ?_
  refine zv_aload_n (pc := 6) d_X2_follow_6 rfl ?_
  refine zv_iload_n (pc := 7) d_X2_follow_7 rfl ?_
  refine zv_iload_n (pc := 8) d_X2_follow_8 rfl ?_
  refine zv_iload (pc := 9) d_X2_follow_9 rfl ?_
  obtain ⟨q3, hq3, hf⟩ := zw_bdE hf
  refine zx_callV (pc := 11) (As := [.ref v1, .int v2, .int v3, .int v4]) (o := v0) (st := []) (d2 := 1) (M2 := M_X2_enter) (P2 := (fun r S => r = none ∧ S = (q3, R, J))) d_X2_follow_11 (zw_mG (List.mem_of_getElem? (i := 901) (by decide +kernel)) rfl) ce_X2_enter (zw_RvK g1 rfl rfl) (Nat.le_of_ble_eq_true rfl) rfl (Nat.le_of_ble_eq_true rfl) (by decide) (c_X2_enter X v0 v1 v2 v3 v4 I2 R J _ hq3 ⟨rfl, rfl⟩) ?_
  rintro _ _ ⟨rfl, rfl⟩
  show zy_V X M_X2_follow 2 P (11 + 3) [.ref v0, .ref v1, .int v2, .int v3, .int v4, .null] [] (q3, R, J)
  refine zv_iconst (pc := 14) d_X2_follow_14 zc_i_0 ?_
  refine zx_istore (pc := 15) (x2 := 0) (L2 := [.ref v0, .ref v1, .int v2, .int v3, .int v4, .int 0]) d_X2_follow_15 (by decide) rfl rfl ?_
  obtain ⟨q9, hq9, hf⟩ := zw_bdE hf
  refine zx_weak (L' := [.ref v0, .ref v1, .null, .null, .null, .int 0]) (zw_leS (zw_leS (zw_leN (zw_leN (zw_leN (zw_leS zw_leZ)))))) (s_X2_follow_17_lp X P v0 v1 R J _ _ _ hq9 ?_)
  show zy_V X M_X2_follow 2 P 43 [.ref v0, .null, .null, .null, .null, .null] [] (q9, R, J)
  exact zx_weak (zw_leS (zw_leN (zw_leN (zw_leN (zw_leN (zw_leN zw_leZ)))))) (j_X2_follow_43_ok X P v0 q9 R J _ hf hk)
abbrev M_X3_readStuff : zw_M := (⟨"CutStones$Reader", "readStuff", "(LCutStones$Tape;)V"⟩, prog_5_method_9_code, 7, (Option.none : Option Jvm.ClassFile.FieldType))
theorem d_X3_readStuff_0 : decode M_X3_readStuff.2.1 0 = .ok (.aload_n 0, 1) := by decide +kernel
theorem d_X3_readStuff_1 : decode M_X3_readStuff.2.1 1 = .ok (.aload_n 1, 1) := by decide +kernel
theorem d_X3_readStuff_2 : decode M_X3_readStuff.2.1 2 = .ok (.bipush 18, 2) := by decide +kernel
theorem d_X3_readStuff_4 : decode M_X3_readStuff.2.1 4 = .ok (.aload_n 0, 1) := by decide +kernel
theorem d_X3_readStuff_5 : decode M_X3_readStuff.2.1 5 = .ok (.getfield 21, 3) := by decide +kernel
theorem d_X3_readStuff_8 : decode M_X3_readStuff.2.1 8 = .ok (.getfield 78, 3) := by decide +kernel
theorem d_X3_readStuff_11 : decode M_X3_readStuff.2.1 11 = .ok (.iconst 4, 1) := by decide +kernel
theorem d_X3_readStuff_12 : decode M_X3_readStuff.2.1 12 = .ok (.if_icmp .ge 7, 3) := by decide +kernel
theorem d_X3_readStuff_15 : decode M_X3_readStuff.2.1 15 = .ok (.iconst 1, 1) := by decide +kernel
theorem d_X3_readStuff_16 : decode M_X3_readStuff.2.1 16 = .ok (.goto 4, 3) := by decide +kernel
theorem d_X3_readStuff_19 : decode M_X3_readStuff.2.1 19 = .ok (.iconst 0, 1) := by decide +kernel
theorem d_X3_readStuff_20 : decode M_X3_readStuff.2.1 20 = .ok (.invokevirtual 66, 3) := by decide +kernel
theorem d_X3_readStuff_23 : decode M_X3_readStuff.2.1 23 = .ok (.ifCond .ne 4, 3) := by decide +kernel
theorem d_X3_readStuff_26 : decode M_X3_readStuff.2.1 26 = .ok (.return_, 1) := by decide +kernel
theorem d_X3_readStuff_27 : decode M_X3_readStuff.2.1 27 = .ok (.aload_n 0, 1) := by decide +kernel
theorem d_X3_readStuff_28 : decode M_X3_readStuff.2.1 28 = .ok (.aload_n 1, 1) := by decide +kernel
theorem d_X3_readStuff_29 : decode M_X3_readStuff.2.1 29 = .ok (.invokevirtual 81, 3) := by decide +kernel
theorem d_X3_readStuff_32 : decode M_X3_readStuff.2.1 32 = .ok (.aload_n 0, 1) := by decide +kernel
theorem d_X3_readStuff_33 : decode M_X3_readStuff.2.1 33 = .ok (.aload_n 1, 1) := by decide +kernel
theorem d_X3_readStuff_34 : decode M_X3_readStuff.2.1 34 = .ok (.bipush 6, 2) := by decide +kernel
theorem d_X3_readStuff_36 : decode M_X3_readStuff.2.1 36 = .ok (.iconst 1, 1) := by decide +kernel
theorem d_X3_readStuff_37 : decode M_X3_readStuff.2.1 37 = .ok (.invokevirtual 66, 3) := by decide +kernel
theorem d_X3_readStuff_40 : decode M_X3_readStuff.2.1 40 = .ok (.pop, 1) := by decide +kernel
theorem d_X3_readStuff_41 : decode M_X3_readStuff.2.1 41 = .ok (.aload_n 0, 1) := by decide +kernel
theorem d_X3_readStuff_42 : decode M_X3_readStuff.2.1 42 = .ok (.getfield 21, 3) := by decide +kernel
theorem d_X3_readStuff_45 : decode M_X3_readStuff.2.1 45 = .ok (.invokevirtual 84, 3) := by decide +kernel
theorem d_X3_readStuff_48 : decode M_X3_readStuff.2.1 48 = .ok (.astore_n 2, 1) := by decide +kernel
theorem d_X3_readStuff_49 : decode M_X3_readStuff.2.1 49 = .ok (.iconst 1, 1) := by decide +kernel
theorem d_X3_readStuff_50 : decode M_X3_readStuff.2.1 50 = .ok (.istore_n 3, 1) := by decide +kernel
theorem d_X3_readStuff_51 : decode M_X3_readStuff.2.1 51 = .ok (.iconst 0, 1) := by decide +kernel
theorem d_X3_readStuff_52 : decode M_X3_readStuff.2.1 52 = .ok (.istore 4, 2) := by decide +kernel
theorem d_X3_readStuff_54 : decode M_X3_readStuff.2.1 54 = .ok (.iload_n 3, 1) := by decide +kernel
theorem d_X3_readStuff_55 : decode M_X3_readStuff.2.1 55 = .ok (.ifCond .eq 78, 3) := by decide +kernel
theorem d_X3_readStuff_58 : decode M_X3_readStuff.2.1 58 = .ok (.iload 4, 2) := by decide +kernel
theorem d_X3_readStuff_60 : decode M_X3_readStuff.2.1 60 = .ok (.iconst 4, 1) := by decide +kernel
theorem d_X3_readStuff_61 : decode M_X3_readStuff.2.1 61 = .ok (.if_icmp .gt 72, 3) := by decide +kernel
theorem d_X3_readStuff_64 : decode M_X3_readStuff.2.1 64 = .ok (.aload_n 0, 1) := by decide +kernel
theorem d_X3_readStuff_65 : decode M_X3_readStuff.2.1 65 = .ok (.aload_n 1, 1) := by decide +kernel
theorem d_X3_readStuff_66 : decode M_X3_readStuff.2.1 66 = .ok (.iload 4, 2) := by decide +kernel
theorem d_X3_readStuff_68 : decode M_X3_readStuff.2.1 68 = .ok (.iconst 4, 1) := by decide +kernel
theorem d_X3_readStuff_69 : decode M_X3_readStuff.2.1 69 = .ok (.if_icmp .ge 7, 3) := by decide +kernel
theorem d_X3_readStuff_72 : decode M_X3_readStuff.2.1 72 = .ok (.iconst 1, 1) := by decide +kernel
theorem d_X3_readStuff_73 : decode M_X3_readStuff.2.1 73 = .ok (.goto 4, 3) := by decide +kernel
theorem d_X3_readStuff_76 : decode M_X3_readStuff.2.1 76 = .ok (.iconst 0, 1) := by decide +kernel
theorem d_X3_readStuff_77 : decode M_X3_readStuff.2.1 77 = .ok (.invokevirtual 88, 3) := by decide +kernel
theorem d_X3_readStuff_80 : decode M_X3_readStuff.2.1 80 = .ok (.istore 5, 2) := by decide +kernel
theorem d_X3_readStuff_82 : decode M_X3_readStuff.2.1 82 = .ok (.aload_n 0, 1) := by decide +kernel
theorem d_X3_readStuff_83 : decode M_X3_readStuff.2.1 83 = .ok (.aload_n 1, 1) := by decide +kernel
theorem d_X3_readStuff_84 : decode M_X3_readStuff.2.1 84 = .ok (.iconst 1, 1) := by decide +kernel
theorem d_X3_readStuff_85 : decode M_X3_readStuff.2.1 85 = .ok (.invokevirtual 88, 3) := by decide +kernel
theorem d_X3_readStuff_88 : decode M_X3_readStuff.2.1 88 = .ok (.istore 6, 2) := by decide +kernel
theorem d_X3_readStuff_90 : decode M_X3_readStuff.2.1 90 = .ok (.aload_n 2, 1) := by decide +kernel
theorem d_X3_readStuff_91 : decode M_X3_readStuff.2.1 91 = .ok (.iload 4, 2) := by decide +kernel
theorem d_X3_readStuff_93 : decode M_X3_readStuff.2.1 93 = .ok (.iload 5, 2) := by decide +kernel
theorem d_X3_readStuff_95 : decode M_X3_readStuff.2.1 95 = .ok (.iload 6, 2) := by decide +kernel
theorem d_X3_readStuff_97 : decode M_X3_readStuff.2.1 97 = .ok (.invokevirtual 92, 3) := by decide +kernel
theorem d_X3_readStuff_100 : decode M_X3_readStuff.2.1 100 = .ok (.aload_n 0, 1) := by decide +kernel
theorem d_X3_readStuff_101 : decode M_X3_readStuff.2.1 101 = .ok (.aload_n 1, 1) := by decide +kernel
theorem d_X3_readStuff_102 : decode M_X3_readStuff.2.1 102 = .ok (.invokevirtual 98, 3) := by decide +kernel
theorem d_X3_readStuff_105 : decode M_X3_readStuff.2.1 105 = .ok (.bipush 7, 2) := by decide +kernel
theorem d_X3_readStuff_107 : decode M_X3_readStuff.2.1 107 = .ok (.if_icmp .ne 18, 3) := by decide +kernel
theorem d_X3_readStuff_110 : decode M_X3_readStuff.2.1 110 = .ok (.aload_n 0, 1) := by decide +kernel
theorem d_X3_readStuff_111 : decode M_X3_readStuff.2.1 111 = .ok (.aload_n 1, 1) := by decide +kernel
theorem d_X3_readStuff_112 : decode M_X3_readStuff.2.1 112 = .ok (.bipush 7, 2) := by decide +kernel
theorem d_X3_readStuff_114 : decode M_X3_readStuff.2.1 114 = .ok (.iconst 1, 1) := by decide +kernel
theorem d_X3_readStuff_115 : decode M_X3_readStuff.2.1 115 = .ok (.invokevirtual 66, 3) := by decide +kernel
theorem d_X3_readStuff_118 : decode M_X3_readStuff.2.1 118 = .ok (.ifCond .eq 7, 3) := by decide +kernel
theorem d_X3_readStuff_121 : decode M_X3_readStuff.2.1 121 = .ok (.iconst 1, 1) := by decide +kernel
theorem d_X3_readStuff_122 : decode M_X3_readStuff.2.1 122 = .ok (.goto 4, 3) := by decide +kernel
theorem d_X3_readStuff_125 : decode M_X3_readStuff.2.1 125 = .ok (.iconst 0, 1) := by decide +kernel
theorem d_X3_readStuff_126 : decode M_X3_readStuff.2.1 126 = .ok (.istore_n 3, 1) := by decide +kernel
theorem d_X3_readStuff_127 : decode M_X3_readStuff.2.1 127 = .ok (.iinc 4 1, 3) := by decide +kernel
theorem d_X3_readStuff_130 : decode M_X3_readStuff.2.1 130 = .ok (.goto (-76), 3) := by decide +kernel
theorem d_X3_readStuff_133 : decode M_X3_readStuff.2.1 133 = .ok (.aload_n 0, 1) := by decide +kernel
theorem d_X3_readStuff_134 : decode M_X3_readStuff.2.1 134 = .ok (.aload_n 1, 1) := by decide +kernel
theorem d_X3_readStuff_135 : decode M_X3_readStuff.2.1 135 = .ok (.invokevirtual 98, 3) := by decide +kernel
theorem d_X3_readStuff_138 : decode M_X3_readStuff.2.1 138 = .ok (.bipush 23, 2) := by decide +kernel
theorem d_X3_readStuff_140 : decode M_X3_readStuff.2.1 140 = .ok (.if_icmp .ne 24, 3) := by decide +kernel
theorem d_X3_readStuff_143 : decode M_X3_readStuff.2.1 143 = .ok (.aload_n 0, 1) := by decide +kernel
theorem d_X3_readStuff_144 : decode M_X3_readStuff.2.1 144 = .ok (.aload_n 1, 1) := by decide +kernel
theorem d_X3_readStuff_145 : decode M_X3_readStuff.2.1 145 = .ok (.bipush 23, 2) := by decide +kernel
theorem d_X3_readStuff_147 : decode M_X3_readStuff.2.1 147 = .ok (.iconst 1, 1) := by decide +kernel
theorem d_X3_readStuff_148 : decode M_X3_readStuff.2.1 148 = .ok (.invokevirtual 66, 3) := by decide +kernel
theorem d_X3_readStuff_151 : decode M_X3_readStuff.2.1 151 = .ok (.ifCond .eq 13, 3) := by decide +kernel
theorem d_X3_readStuff_154 : decode M_X3_readStuff.2.1 154 = .ok (.aload_n 2, 1) := by decide +kernel
theorem d_X3_readStuff_155 : decode M_X3_readStuff.2.1 155 = .ok (.aload_n 0, 1) := by decide +kernel
theorem d_X3_readStuff_156 : decode M_X3_readStuff.2.1 156 = .ok (.aload_n 1, 1) := by decide +kernel
theorem d_X3_readStuff_157 : decode M_X3_readStuff.2.1 157 = .ok (.iconst 1, 1) := by decide +kernel
theorem d_X3_readStuff_158 : decode M_X3_readStuff.2.1 158 = .ok (.invokevirtual 88, 3) := by decide +kernel
theorem d_X3_readStuff_161 : decode M_X3_readStuff.2.1 161 = .ok (.putfield 102, 3) := by decide +kernel
theorem d_X3_readStuff_164 : decode M_X3_readStuff.2.1 164 = .ok (.aload_n 0, 1) := by decide +kernel
theorem d_X3_readStuff_165 : decode M_X3_readStuff.2.1 165 = .ok (.aload_n 1, 1) := by decide +kernel
theorem d_X3_readStuff_166 : decode M_X3_readStuff.2.1 166 = .ok (.iconst 5, 1) := by decide +kernel
theorem d_X3_readStuff_167 : decode M_X3_readStuff.2.1 167 = .ok (.iconst 1, 1) := by decide +kernel
theorem d_X3_readStuff_168 : decode M_X3_readStuff.2.1 168 = .ok (.invokevirtual 66, 3) := by decide +kernel
theorem d_X3_readStuff_171 : decode M_X3_readStuff.2.1 171 = .ok (.pop, 1) := by decide +kernel
theorem d_X3_readStuff_172 : decode M_X3_readStuff.2.1 172 = .ok (.return_, 1) := by decide +kernel
theorem ce_X3_readStuff : zw_CeV M_X3_readStuff 1 := ⟨⟨⟨by decide +kernel, by decide +kernel, by decide +kernel⟩, (zw_mG (List.mem_of_getElem? (i := 812) (by decide +kernel)) rfl), (zw_mG (List.mem_of_getElem? (i := 98) (by decide +kernel)) rfl), by decide, by decide +kernel⟩, (zw_mG (List.mem_of_getElem? (i := 811) (by decide +kernel)) rfl), (zw_mG (List.mem_of_getElem? (i := 20) (by decide +kernel)) rfl)⟩
def j_X3_readStuff_126_54 (v0 : Nat) (v1 : Nat) (v2 : Nat) (v4 : Int32) (s0 : Int32) (I : zI) (R : zR) (J : zJ) : Option ((Int32 × Int32 × zI) ⊕ (zI)) :=
  zw_let (v4 + 1 : Int32) fun x23 => (some (.inl (s0, x23, I)))
theorem j_X3_readStuff_126_54_ok (X : zw_X) (P : Option Value → aS → Prop) (v0 : Nat) (v1 : Nat) (v2 : Nat) (v4 : Int32) (s0 : Int32) (I : zI) (R : zR) (J : zJ) (o : (Int32 × Int32 × zI) ⊕ (zI)) (hf : j_X3_readStuff_126_54 v0 v1 v2 v4 s0 I R J = some o) (hk : (zw_se (fun t => zy_V X M_X3_readStuff 2 P 54 [.ref v0, .ref v1, .ref v2, .int t.1, .int t.2.1, .null, .null] [] (t.2.2, R, J)) (fun r => zy_V X M_X3_readStuff 2 P 133 [.ref v0, .ref v1, .ref v2, .null, .null, .null, .null] [] (r, R, J)) o)) : zy_V X M_X3_readStuff 2 P 126 [.ref v0, .ref v1, .ref v2, .null, .int v4, .null, .null] [.int s0] (I, R, J) := by
  unfold j_X3_readStuff_126_54 at hf
  refine zx_istore_n (pc := 126) (x2 := s0) (L2 := [.ref v0, .ref v1, .ref v2, .int s0, .int v4, .null, .null]) d_X3_readStuff_126 (by decide) rfl rfl ?_
  obtain ⟨x23, ex23, hf⟩ := zw_letE hf
  refine zx_iinc (pc := 127) (x2 := x23) (L2 := [.ref v0, .ref v1, .ref v2, .int s0, .int x23, .null, .null]) d_X3_readStuff_127 (by decide) rfl zc_i_1 ex23 rfl ?_
  refine zv_goto (pc := 130) (tg := 54) d_X3_readStuff_130 (by decide) ?_
  cases hf
  exact zx_weak (zw_leS (zw_leS (zw_leS (zw_leS (zw_leS (zw_leN (zw_leN zw_leZ))))))) hk
def j_X3_readStuff_125_54 (v0 : Nat) (v1 : Nat) (v2 : Nat) (v4 : Int32) (I : zI) (R : zR) (J : zJ) : Option ((Int32 × Int32 × zI) ⊕ (zI)) :=
  j_X3_readStuff_126_54 v0 v1 v2 v4 0 I R J
theorem j_X3_readStuff_125_54_ok (X : zw_X) (P : Option Value → aS → Prop) (v0 : Nat) (v1 : Nat) (v2 : Nat) (v4 : Int32) (I : zI) (R : zR) (J : zJ) (o : (Int32 × Int32 × zI) ⊕ (zI)) (hf : j_X3_readStuff_125_54 v0 v1 v2 v4 I R J = some o) (hk : (zw_se (fun t => zy_V X M_X3_readStuff 2 P 54 [.ref v0, .ref v1, .ref v2, .int t.1, .int t.2.1, .null, .null] [] (t.2.2, R, J)) (fun r => zy_V X M_X3_readStuff 2 P 133 [.ref v0, .ref v1, .ref v2, .null, .null, .null, .null] [] (r, R, J)) o)) : zy_V X M_X3_readStuff 2 P 125 [.ref v0, .ref v1, .ref v2, .null, .int v4, .null, .null] [] (I, R, J) := by
  unfold j_X3_readStuff_125_54 at hf
  refine zv_iconst (pc := 125) d_X3_readStuff_125 zc_i_0 ?_
  exact zx_weak (zw_leS (zw_leS (zw_leS (zw_leN (zw_leS (zw_leN (zw_leN zw_leZ))))))) (j_X3_readStuff_126_54_ok X P v0 v1 v2 v4 0 I R J _ hf hk)
def j_X3_readStuff_77_54 (v0 : Nat) (v1 : Nat) (v2 : Nat) (v4 : Int32) (s0 : Nat) (s1 : Nat) (s2 : Int32) (I : zI) (R : zR) (J : zJ) : Option ((Int32 × Int32 × zI) ⊕ (zI)) :=
  zw_g (zw_gc s0 3) ((f_X3_takeShare s0 s1 s2 I R J).bind fun q16 => (zw_g (zw_gc v0 3) ((f_X3_takeShare v0 v1 1 q16.2 R J).bind fun q18 => (zw_g (zw_gc v2 7) ((f_X7_setShare v2 v4 q16.1 q18.1 q18.2 R).bind fun q20 => ((f_X3_kind v0 v1 q20 R).bind fun q21 => (if ¬ q21 = 7 then j_X3_readStuff_125_54 v0 v1 v2 v4 q20 R J else (f_X3_take v0 v1 7 1 q20 R).bind fun q24 => (if q24.1 = 0 then j_X3_readStuff_125_54 v0 v1 v2 v4 q24.2 R J else j_X3_readStuff_126_54 v0 v1 v2 v4 1 q24.2 R J))))))))
theorem j_X3_readStuff_77_54_ok (X : zw_X) (P : Option Value → aS → Prop) (v0 : Nat) (v1 : Nat) (v2 : Nat) (v4 : Int32) (s0 : Nat) (s1 : Nat) (s2 : Int32) (I : zI) (R : zR) (J : zJ) (o : (Int32 × Int32 × zI) ⊕ (zI)) (hf : j_X3_readStuff_77_54 v0 v1 v2 v4 s0 s1 s2 I R J = some o) (hk : (zw_se (fun t => zy_V X M_X3_readStuff 2 P 54 [.ref v0, .ref v1, .ref v2, .int t.1, .int t.2.1, .null, .null] [] (t.2.2, R, J)) (fun r => zy_V X M_X3_readStuff 2 P 133 [.ref v0, .ref v1, .ref v2, .null, .null, .null, .null] [] (r, R, J)) o)) : zy_V X M_X3_readStuff 2 P 77 [.ref v0, .ref v1, .ref v2, .null, .int v4, .null, .null] [.int s2, .ref s1, .ref s0] (I, R, J) := by
  unfold j_X3_readStuff_77_54 at hf
  obtain ⟨g15, hf⟩ := zw_gcE hf (by decide)
  obtain ⟨q16, hq16, hf⟩ := zw_bdE hf
  refine zx_callV (pc := 77) (As := [.ref s1, .int s2]) (o := s0) (st := []) (d2 := 1) (M2 := M_X3_takeShare) (P2 := (fun r S => r = (some (.int q16.1)) ∧ S = (q16.2, R, J))) d_X3_readStuff_77 (zw_mG (List.mem_of_getElem? (i := 817) (by decide +kernel)) rfl) ce_X3_takeShare (zw_RvK g15 rfl rfl) (Nat.le_of_ble_eq_true rfl) rfl (Nat.le_of_ble_eq_true rfl) (by decide) (c_X3_takeShare X s0 s1 s2 I R J _ hq16 ⟨rfl, rfl⟩) ?_
  rintro _ _ ⟨rfl, rfl⟩
  show zy_V X M_X3_readStuff 2 P (77 + 3) [.ref v0, .ref v1, .ref v2, .null, .int v4, .null, .null] [.int q16.1] (q16.2, R, J)
  refine zx_istore (pc := 80) (x2 := q16.1) (L2 := [.ref v0, .ref v1, .ref v2, .null, .int v4, .int q16.1, .null]) d_X3_readStuff_80 (by decide) rfl rfl ?_
  refine zv_aload_n (pc := 82) d_X3_readStuff_82 rfl ?_
  refine zv_aload_n (pc := 83) d_X3_readStuff_83 rfl ?_
  refine zv_iconst (pc := 84) d_X3_readStuff_84 zc_i_1 ?_
  obtain ⟨g17, hf⟩ := zw_gcE hf (by decide)
  obtain ⟨q18, hq18, hf⟩ := zw_bdE hf
  refine zx_callV (pc := 85) (As := [.ref v1, .int 1]) (o := v0) (st := []) (d2 := 1) (M2 := M_X3_takeShare) (P2 := (fun r S => r = (some (.int q18.1)) ∧ S = (q18.2, R, J))) d_X3_readStuff_85 (zw_mG (List.mem_of_getElem? (i := 817) (by decide +kernel)) rfl) ce_X3_takeShare (zw_RvK g17 rfl rfl) (Nat.le_of_ble_eq_true rfl) rfl (Nat.le_of_ble_eq_true rfl) (by decide) (c_X3_takeShare X v0 v1 1 q16.2 R J _ hq18 ⟨rfl, rfl⟩) ?_
  rintro _ _ ⟨rfl, rfl⟩
  show zy_V X M_X3_readStuff 2 P (85 + 3) [.ref v0, .ref v1, .ref v2, .null, .int v4, .int q16.1, .null] [.int q18.1] (q18.2, R, J)
  refine zx_istore (pc := 88) (x2 := q18.1) (L2 := [.ref v0, .ref v1, .ref v2, .null, .int v4, .int q16.1, .int q18.1]) d_X3_readStuff_88 (by decide) rfl rfl ?_
  refine zv_aload_n (pc := 90) d_X3_readStuff_90 rfl ?_
  refine zv_iload (pc := 91) d_X3_readStuff_91 rfl ?_
  refine zv_iload (pc := 93) d_X3_readStuff_93 rfl ?_
  refine zv_iload (pc := 95) d_X3_readStuff_95 rfl ?_
  obtain ⟨g19, hf⟩ := zw_gcE hf (by decide)
  obtain ⟨q20, hq20, hf⟩ := zw_bdE hf
  refine zx_callV (pc := 97) (As := [.int v4, .int q16.1, .int q18.1]) (o := v2) (st := []) (d2 := 0) (M2 := M_X7_setShare) (P2 := (fun r S => r = none ∧ S = (q20, R, J))) d_X3_readStuff_97 (zw_mG (List.mem_of_getElem? (i := 821) (by decide +kernel)) rfl) ce_X7_setShare (zw_RvK g19 rfl rfl) (Nat.le_of_ble_eq_true rfl) rfl (Nat.le_of_ble_eq_true rfl) (by decide) (c_X7_setShare X v2 v4 q16.1 q18.1 q18.2 R J _ hq20 ⟨rfl, rfl⟩) ?_
  rintro _ _ ⟨rfl, rfl⟩
  show zy_V X M_X3_readStuff 2 P (97 + 3) [.ref v0, .ref v1, .ref v2, .null, .int v4, .int q16.1, .int q18.1] [] (q20, R, J)
  refine zv_aload_n (pc := 100) d_X3_readStuff_100 rfl ?_
  refine zv_aload_n (pc := 101) d_X3_readStuff_101 rfl ?_
  obtain ⟨q21, hq21, hf⟩ := zw_bdE hf
  refine zx_callV (pc := 102) (As := [.ref v1]) (o := v0) (st := []) (d2 := 0) (M2 := M_X3_kind) (P2 := (fun r S => r = (some (.int q21)) ∧ S = (q20, R, J))) d_X3_readStuff_102 (zw_mG (List.mem_of_getElem? (i := 746) (by decide +kernel)) rfl) ce_X3_kind (zw_RvK g17 rfl rfl) (Nat.le_of_ble_eq_true rfl) rfl (Nat.le_of_ble_eq_true rfl) (by decide) (c_X3_kind X v0 v1 q20 R J _ hq21 ⟨rfl, rfl⟩) ?_
  rintro _ _ ⟨rfl, rfl⟩
  show zy_V X M_X3_readStuff 2 P (102 + 3) [.ref v0, .ref v1, .ref v2, .null, .int v4, .int q16.1, .int q18.1] [.int q21] (q20, R, J)
  refine zv_bipush (pc := 105) d_X3_readStuff_105 zc_b_7 ?_
  rcases zw_ifE hf with ⟨c22, hf⟩ | ⟨c22, hf⟩
  · refine zv_icmp_ne (pc := 107) (tg := 125) d_X3_readStuff_107 (by decide) (fun _ => ?_) (fun q => absurd q c22)
    exact zx_weak (zw_leS (zw_leS (zw_leS (zw_leN (zw_leS (zw_leN (zw_leN zw_leZ))))))) (j_X3_readStuff_125_54_ok X P v0 v1 v2 v4 q20 R J _ hf hk)
  · refine zv_icmp_ne (pc := 107) (tg := 125) d_X3_readStuff_107 (by decide) (fun q => absurd q c22) (fun _ => ?_)
    refine zv_aload_n (pc := 110) d_X3_readStuff_110 rfl ?_
    refine zv_aload_n (pc := 111) d_X3_readStuff_111 rfl ?_
    refine zv_bipush (pc := 112) d_X3_readStuff_112 zc_b_7 ?_
    refine zv_iconst (pc := 114) d_X3_readStuff_114 zc_i_1 ?_
    obtain ⟨q24, hq24, hf⟩ := zw_bdE hf
    refine zx_callV (pc := 115) (As := [.ref v1, .int 7, .int 1]) (o := v0) (st := []) (d2 := 0) (M2 := M_X3_take) (P2 := (fun r S => r = (some (.int q24.1)) ∧ S = (q24.2, R, J))) d_X3_readStuff_115 (zw_mG (List.mem_of_getElem? (i := 707) (by decide +kernel)) rfl) ce_X3_take (zw_RvK g17 rfl rfl) (Nat.le_of_ble_eq_true rfl) rfl (Nat.le_of_ble_eq_true rfl) (by decide) (c_X3_take X v0 v1 7 1 q20 R J _ hq24 ⟨rfl, rfl⟩) ?_
    rintro _ _ ⟨rfl, rfl⟩
    show zy_V X M_X3_readStuff 2 P (115 + 3) [.ref v0, .ref v1, .ref v2, .null, .int v4, .int q16.1, .int q18.1] [.int q24.1] (q24.2, R, J)
    rcases zw_ifE hf with ⟨c25, hf⟩ | ⟨c25, hf⟩
    · refine zv_if_eq (pc := 118) (tg := 125) d_X3_readStuff_118 (by decide) (fun _ => ?_) (fun q => absurd c25 q)
      exact zx_weak (zw_leS (zw_leS (zw_leS (zw_leN (zw_leS (zw_leN (zw_leN zw_leZ))))))) (j_X3_readStuff_125_54_ok X P v0 v1 v2 v4 q24.2 R J _ hf hk)
    · refine zv_if_eq (pc := 118) (tg := 125) d_X3_readStuff_118 (by decide) (fun q => absurd q c25) (fun _ => ?_)
      refine zv_iconst (pc := 121) d_X3_readStuff_121 zc_i_1 ?_
      refine zv_goto (pc := 122) (tg := 126) d_X3_readStuff_122 (by decide) ?_
      exact zx_weak (zw_leS (zw_leS (zw_leS (zw_leN (zw_leS (zw_leN (zw_leN zw_leZ))))))) (j_X3_readStuff_126_54_ok X P v0 v1 v2 v4 1 q24.2 R J _ hf hk)
def s_X3_readStuff_54 (v0 : Nat) (v1 : Nat) (v2 : Nat) (R : zR) (J : zJ) (s : Int32 × Int32 × zI) : Option ((Int32 × Int32 × zI) ⊕ (zI)) :=
  if s.1 = 0 then some (.inr s.2.2) else if 4 < s.2.1 then some (.inr s.2.2) else if 4 ≤ s.2.1 then j_X3_readStuff_77_54 v0 v1 v2 s.2.1 v0 v1 0 s.2.2 R J else j_X3_readStuff_77_54 v0 v1 v2 s.2.1 v0 v1 1 s.2.2 R J
theorem s_X3_readStuff_54_ok (X : zw_X) (P : Option Value → aS → Prop) (v0 : Nat) (v1 : Nat) (v2 : Nat) (R : zR) (J : zJ) (s : Int32 × Int32 × zI) (o : (Int32 × Int32 × zI) ⊕ (zI)) (hf : s_X3_readStuff_54 v0 v1 v2 R J s = some o) (hk : (zw_se (fun t => zy_V X M_X3_readStuff 2 P 54 [.ref v0, .ref v1, .ref v2, .int t.1, .int t.2.1, .null, .null] [] (t.2.2, R, J)) (fun r => zy_V X M_X3_readStuff 2 P 133 [.ref v0, .ref v1, .ref v2, .null, .null, .null, .null] [] (r, R, J)) o)) : zy_V X M_X3_readStuff 2 P 54 [.ref v0, .ref v1, .ref v2, .int s.1, .int s.2.1, .null, .null] [] (s.2.2, R, J) := by
  unfold s_X3_readStuff_54 at hf
  refine zv_iload_n (pc := 54) d_X3_readStuff_54 rfl ?_
  rcases zw_ifE hf with ⟨c12, hf⟩ | ⟨c12, hf⟩
  · refine zv_if_eq (pc := 55) (tg := 133) d_X3_readStuff_55 (by decide) (fun _ => ?_) (fun q => absurd c12 q)
    cases hf
    exact zx_weak (zw_leS (zw_leS (zw_leS (zw_leN (zw_leN (zw_leN (zw_leN zw_leZ))))))) hk
  · refine zv_if_eq (pc := 55) (tg := 133) d_X3_readStuff_55 (by decide) (fun q => absurd q c12) (fun _ => ?_)
    refine zv_iload (pc := 58) d_X3_readStuff_58 rfl ?_
    refine zv_iconst (pc := 60) d_X3_readStuff_60 zc_i_4 ?_
    rcases zw_ifE hf with ⟨c13, hf⟩ | ⟨c13, hf⟩
    · refine zv_icmp_gt (pc := 61) (tg := 133) d_X3_readStuff_61 (by decide) (fun _ => ?_) (fun q => absurd c13 q)
      cases hf
      exact zx_weak (zw_leS (zw_leS (zw_leS (zw_leN (zw_leN (zw_leN (zw_leN zw_leZ))))))) hk
    · refine zv_icmp_gt (pc := 61) (tg := 133) d_X3_readStuff_61 (by decide) (fun q => absurd q c13) (fun _ => ?_)
      refine zv_aload_n (pc := 64) d_X3_readStuff_64 rfl ?_
      refine zv_aload_n (pc := 65) d_X3_readStuff_65 rfl ?_
      refine zv_iload (pc := 66) d_X3_readStuff_66 rfl ?_
      refine zv_iconst (pc := 68) d_X3_readStuff_68 zc_i_4 ?_
      rcases zw_ifE hf with ⟨c14, hf⟩ | ⟨c14, hf⟩
      · refine zv_icmp_ge (pc := 69) (tg := 76) d_X3_readStuff_69 (by decide) (fun _ => ?_) (fun q => absurd c14 q)
        refine zv_iconst (pc := 76) d_X3_readStuff_76 zc_i_0 ?_
        exact zx_weak (zw_leS (zw_leS (zw_leS (zw_leN (zw_leS (zw_leN (zw_leN zw_leZ))))))) (j_X3_readStuff_77_54_ok X P v0 v1 v2 s.2.1 v0 v1 0 s.2.2 R J _ hf hk)
      · refine zv_icmp_ge (pc := 69) (tg := 76) d_X3_readStuff_69 (by decide) (fun q => absurd q c14) (fun _ => ?_)
        refine zv_iconst (pc := 72) d_X3_readStuff_72 zc_i_1 ?_
        refine zv_goto (pc := 73) (tg := 77) d_X3_readStuff_73 (by decide) ?_
        exact zx_weak (zw_leS (zw_leS (zw_leS (zw_leN (zw_leS (zw_leN (zw_leN zw_leZ))))))) (j_X3_readStuff_77_54_ok X P v0 v1 v2 s.2.1 v0 v1 1 s.2.2 R J _ hf hk)
theorem s_X3_readStuff_54_lp (X : zw_X) (P : Option Value → aS → Prop) (v0 : Nat) (v1 : Nat) (v2 : Nat) (R : zR) (J : zJ) (n : Nat) (s : Int32 × Int32 × zI) (r : zI) (h : zw_it (s_X3_readStuff_54 v0 v1 v2 R J) n s = some r) (hq : zy_V X M_X3_readStuff 2 P 133 [.ref v0, .ref v1, .ref v2, .null, .null, .null, .null] [] (r, R, J)) : zy_V X M_X3_readStuff 2 P 54 [.ref v0, .ref v1, .ref v2, .int s.1, .int s.2.1, .null, .null] [] (s.2.2, R, J) :=
  zw_itE (A := (fun t : Int32 × Int32 × zI => zy_V X M_X3_readStuff 2 P 54 [.ref v0, .ref v1, .ref v2, .int t.1, .int t.2.1, .null, .null] [] (t.2.2, R, J))) (Q := (fun r : zI => zy_V X M_X3_readStuff 2 P 133 [.ref v0, .ref v1, .ref v2, .null, .null, .null, .null] [] (r, R, J))) (fun s o h1 h2 => s_X3_readStuff_54_ok X P v0 v1 v2 R J s o h1 h2) n s r h hq
def j_X3_readStuff_164 (v0 : Nat) (v1 : Nat) (I : zI) (R : zR) (J : zJ) : Option (zI × zJ) :=
  zw_g (zw_gc v0 3) ((f_X3_take v0 v1 5 1 I R).bind fun q31 => (some (q31.2, J)))
theorem j_X3_readStuff_164_ok (X : zw_X) (P : Option Value → aS → Prop) (v0 : Nat) (v1 : Nat) (I : zI) (R : zR) (J : zJ) (o : zI × zJ) (hf : j_X3_readStuff_164 v0 v1 I R J = some o) (hk : P none (o.1, R, o.2)) : zy_V X M_X3_readStuff 2 P 164 [.ref v0, .ref v1, .null, .null, .null, .null, .null] [] (I, R, J) := by
  unfold j_X3_readStuff_164 at hf
  refine zv_aload_n (pc := 164) d_X3_readStuff_164 rfl ?_
  refine zv_aload_n (pc := 165) d_X3_readStuff_165 rfl ?_
  refine zv_iconst (pc := 166) d_X3_readStuff_166 zc_i_5 ?_
  refine zv_iconst (pc := 167) d_X3_readStuff_167 zc_i_1 ?_
  obtain ⟨g30, hf⟩ := zw_gcE hf (by decide)
  obtain ⟨q31, hq31, hf⟩ := zw_bdE hf
  refine zx_callV (pc := 168) (As := [.ref v1, .int 5, .int 1]) (o := v0) (st := []) (d2 := 0) (M2 := M_X3_take) (P2 := (fun r S => r = (some (.int q31.1)) ∧ S = (q31.2, R, J))) d_X3_readStuff_168 (zw_mG (List.mem_of_getElem? (i := 707) (by decide +kernel)) rfl) ce_X3_take (zw_RvK g30 rfl rfl) (Nat.le_of_ble_eq_true rfl) rfl (Nat.le_of_ble_eq_true rfl) (by decide) (c_X3_take X v0 v1 5 1 I R J _ hq31 ⟨rfl, rfl⟩) ?_
  rintro _ _ ⟨rfl, rfl⟩
  show zy_V X M_X3_readStuff 2 P (168 + 3) [.ref v0, .ref v1, .null, .null, .null, .null, .null] [.int q31.1] (q31.2, R, J)
  refine zv_pop (pc := 171) d_X3_readStuff_171 rfl ?_
  cases hf
  exact zx_vret (pc := 172) d_X3_readStuff_172 rfl hk
def j_X3_readStuff_133 (v0 : Nat) (v1 : Nat) (v2 : Nat) (I : zI) (R : zR) (J : zJ) : Option (zI × zJ) :=
  zw_g (zw_gc v0 3) ((f_X3_kind v0 v1 I R).bind fun q28 => (if ¬ q28 = 23 then j_X3_readStuff_164 v0 v1 I R J else (f_X3_take v0 v1 23 1 I R).bind fun q32 => (if q32.1 = 0 then j_X3_readStuff_164 v0 v1 q32.2 R J else (f_X3_takeShare v0 v1 1 q32.2 R J).bind fun q34 => (zw_g (zw_gc v2 7) (zw_let (zw_u q34.2 v2 2 q34.1 : zI) fun I36 => (j_X3_readStuff_164 v0 v1 I36 R J))))))
theorem j_X3_readStuff_133_ok (X : zw_X) (P : Option Value → aS → Prop) (v0 : Nat) (v1 : Nat) (v2 : Nat) (I : zI) (R : zR) (J : zJ) (o : zI × zJ) (hf : j_X3_readStuff_133 v0 v1 v2 I R J = some o) (hk : P none (o.1, R, o.2)) : zy_V X M_X3_readStuff 2 P 133 [.ref v0, .ref v1, .ref v2, .null, .null, .null, .null] [] (I, R, J) := by
  unfold j_X3_readStuff_133 at hf
  refine zv_aload_n (pc := 133) d_X3_readStuff_133 rfl ?_
  refine zv_aload_n (pc := 134) d_X3_readStuff_134 rfl ?_
  obtain ⟨g27, hf⟩ := zw_gcE hf (by decide)
  obtain ⟨q28, hq28, hf⟩ := zw_bdE hf
  refine zx_callV (pc := 135) (As := [.ref v1]) (o := v0) (st := []) (d2 := 0) (M2 := M_X3_kind) (P2 := (fun r S => r = (some (.int q28)) ∧ S = (I, R, J))) d_X3_readStuff_135 (zw_mG (List.mem_of_getElem? (i := 746) (by decide +kernel)) rfl) ce_X3_kind (zw_RvK g27 rfl rfl) (Nat.le_of_ble_eq_true rfl) rfl (Nat.le_of_ble_eq_true rfl) (by decide) (c_X3_kind X v0 v1 I R J _ hq28 ⟨rfl, rfl⟩) ?_
  rintro _ _ ⟨rfl, rfl⟩
  show zy_V X M_X3_readStuff 2 P (135 + 3) [.ref v0, .ref v1, .ref v2, .null, .null, .null, .null] [.int q28] (I, R, J)
  refine zv_bipush (pc := 138) d_X3_readStuff_138 zc_b_23 ?_
  rcases zw_ifE hf with ⟨c29, hf⟩ | ⟨c29, hf⟩
  · refine zv_icmp_ne (pc := 140) (tg := 164) d_X3_readStuff_140 (by decide) (fun _ => ?_) (fun q => absurd q c29)
    exact zx_weak (zw_leS (zw_leS (zw_leN (zw_leN (zw_leN (zw_leN (zw_leN zw_leZ))))))) (j_X3_readStuff_164_ok X P v0 v1 I R J _ hf hk)
  · refine zv_icmp_ne (pc := 140) (tg := 164) d_X3_readStuff_140 (by decide) (fun q => absurd q c29) (fun _ => ?_)
    refine zv_aload_n (pc := 143) d_X3_readStuff_143 rfl ?_
    refine zv_aload_n (pc := 144) d_X3_readStuff_144 rfl ?_
    refine zv_bipush (pc := 145) d_X3_readStuff_145 zc_b_23 ?_
    refine zv_iconst (pc := 147) d_X3_readStuff_147 zc_i_1 ?_
    obtain ⟨q32, hq32, hf⟩ := zw_bdE hf
    refine zx_callV (pc := 148) (As := [.ref v1, .int 23, .int 1]) (o := v0) (st := []) (d2 := 0) (M2 := M_X3_take) (P2 := (fun r S => r = (some (.int q32.1)) ∧ S = (q32.2, R, J))) d_X3_readStuff_148 (zw_mG (List.mem_of_getElem? (i := 707) (by decide +kernel)) rfl) ce_X3_take (zw_RvK g27 rfl rfl) (Nat.le_of_ble_eq_true rfl) rfl (Nat.le_of_ble_eq_true rfl) (by decide) (c_X3_take X v0 v1 23 1 I R J _ hq32 ⟨rfl, rfl⟩) ?_
    rintro _ _ ⟨rfl, rfl⟩
    show zy_V X M_X3_readStuff 2 P (148 + 3) [.ref v0, .ref v1, .ref v2, .null, .null, .null, .null] [.int q32.1] (q32.2, R, J)
    rcases zw_ifE hf with ⟨c33, hf⟩ | ⟨c33, hf⟩
    · refine zv_if_eq (pc := 151) (tg := 164) d_X3_readStuff_151 (by decide) (fun _ => ?_) (fun q => absurd c33 q)
      exact zx_weak (zw_leS (zw_leS (zw_leN (zw_leN (zw_leN (zw_leN (zw_leN zw_leZ))))))) (j_X3_readStuff_164_ok X P v0 v1 q32.2 R J _ hf hk)
    · refine zv_if_eq (pc := 151) (tg := 164) d_X3_readStuff_151 (by decide) (fun q => absurd q c33) (fun _ => ?_)
      refine zv_aload_n (pc := 154) d_X3_readStuff_154 rfl ?_
      refine zv_aload_n (pc := 155) d_X3_readStuff_155 rfl ?_
      refine zv_aload_n (pc := 156) d_X3_readStuff_156 rfl ?_
      refine zv_iconst (pc := 157) d_X3_readStuff_157 zc_i_1 ?_
      obtain ⟨q34, hq34, hf⟩ := zw_bdE hf
      refine zx_callV (pc := 158) (As := [.ref v1, .int 1]) (o := v0) (st := [.ref v2]) (d2 := 1) (M2 := M_X3_takeShare) (P2 := (fun r S => r = (some (.int q34.1)) ∧ S = (q34.2, R, J))) d_X3_readStuff_158 (zw_mG (List.mem_of_getElem? (i := 817) (by decide +kernel)) rfl) ce_X3_takeShare (zw_RvK g27 rfl rfl) (Nat.le_of_ble_eq_true rfl) rfl (Nat.le_of_ble_eq_true rfl) (by decide) (c_X3_takeShare X v0 v1 1 q32.2 R J _ hq34 ⟨rfl, rfl⟩) ?_
      rintro _ _ ⟨rfl, rfl⟩
      show zy_V X M_X3_readStuff 2 P (158 + 3) [.ref v0, .ref v1, .ref v2, .null, .null, .null, .null] [.int q34.1, .ref v2] (q34.2, R, J)
      obtain ⟨g35, hf⟩ := zw_gcE hf (by decide)
      obtain ⟨I36, eI36, hf⟩ := zw_letE hf
      refine zx_putI (pc := 161) (I2 := I36) d_X3_readStuff_161 lk_CutStones_Reader_102 rfl g35 eI36 ?_
      exact zx_weak (zw_leS (zw_leS (zw_leN (zw_leN (zw_leN (zw_leN (zw_leN zw_leZ))))))) (j_X3_readStuff_164_ok X P v0 v1 I36 R J _ hf hk)
def j_X3_readStuff_20 (v0 : Nat) (v1 : Nat) (s0 : Nat) (s1 : Nat) (s2 : Int32) (s3 : Int32) (I : zI) (R : zR) (J : zJ) : Option (zI × zJ) :=
  zw_g (zw_gc s0 3) ((f_X3_take s0 s1 s2 s3 I R).bind fun q5 => (if ¬ q5.1 = 0 then zw_g (zw_gc v0 3) ((f_X3_takeName v0 v1 q5.2 R J).bind fun q8 => ((f_X3_take v0 v1 6 1 q8.1 R).bind fun q9 => (zw_g (zw_gc (R v0 2) 1) ((f_X1_addStuff (R v0 2) q9.2 R).bind fun q11 => ((zw_it (s_X3_readStuff_54 v0 v1 q11.1 R q8.2) 1000000 (1, 0, q11.2)).bind fun q26 => (j_X3_readStuff_133 v0 v1 q11.1 q26 R q8.2)))))) else some (q5.2, J)))
theorem j_X3_readStuff_20_ok (X : zw_X) (P : Option Value → aS → Prop) (v0 : Nat) (v1 : Nat) (s0 : Nat) (s1 : Nat) (s2 : Int32) (s3 : Int32) (I : zI) (R : zR) (J : zJ) (o : zI × zJ) (hf : j_X3_readStuff_20 v0 v1 s0 s1 s2 s3 I R J = some o) (hk : P none (o.1, R, o.2)) : zy_V X M_X3_readStuff 2 P 20 [.ref v0, .ref v1, .null, .null, .null, .null, .null] [.int s3, .int s2, .ref s1, .ref s0] (I, R, J) := by
  unfold j_X3_readStuff_20 at hf
  obtain ⟨g4, hf⟩ := zw_gcE hf (by decide)
  obtain ⟨q5, hq5, hf⟩ := zw_bdE hf
  refine zx_callV (pc := 20) (As := [.ref s1, .int s2, .int s3]) (o := s0) (st := []) (d2 := 0) (M2 := M_X3_take) (P2 := (fun r S => r = (some (.int q5.1)) ∧ S = (q5.2, R, J))) d_X3_readStuff_20 (zw_mG (List.mem_of_getElem? (i := 707) (by decide +kernel)) rfl) ce_X3_take (zw_RvK g4 rfl rfl) (Nat.le_of_ble_eq_true rfl) rfl (Nat.le_of_ble_eq_true rfl) (by decide) (c_X3_take X s0 s1 s2 s3 I R J _ hq5 ⟨rfl, rfl⟩) ?_
  rintro _ _ ⟨rfl, rfl⟩
  show zy_V X M_X3_readStuff 2 P (20 + 3) [.ref v0, .ref v1, .null, .null, .null, .null, .null] [.int q5.1] (q5.2, R, J)
  rcases zw_ifE hf with ⟨c6, hf⟩ | ⟨c6, hf⟩
  · refine zv_if_ne (pc := 23) (tg := 27) d_X3_readStuff_23 (by decide) (fun _ => ?_) (fun q => absurd q c6)
    refine zv_aload_n (pc := 27) d_X3_readStuff_27 rfl ?_
    refine zv_aload_n (pc := 28) d_X3_readStuff_28 rfl ?_
    obtain ⟨g7, hf⟩ := zw_gcE hf (by decide)
    obtain ⟨q8, hq8, hf⟩ := zw_bdE hf
    refine zx_callV (pc := 29) (As := [.ref v1]) (o := v0) (st := []) (d2 := 1) (M2 := M_X3_takeName) (P2 := (fun r S => r = none ∧ S = (q8.1, R, q8.2))) d_X3_readStuff_29 (zw_mG (List.mem_of_getElem? (i := 723) (by decide +kernel)) rfl) ce_X3_takeName (zw_RvK g7 rfl rfl) (Nat.le_of_ble_eq_true rfl) rfl (Nat.le_of_ble_eq_true rfl) (by decide) (c_X3_takeName X v0 v1 q5.2 R J _ hq8 ⟨rfl, rfl⟩) ?_
    rintro _ _ ⟨rfl, rfl⟩
    show zy_V X M_X3_readStuff 2 P (29 + 3) [.ref v0, .ref v1, .null, .null, .null, .null, .null] [] (q8.1, R, q8.2)
    refine zv_aload_n (pc := 32) d_X3_readStuff_32 rfl ?_
    refine zv_aload_n (pc := 33) d_X3_readStuff_33 rfl ?_
    refine zv_bipush (pc := 34) d_X3_readStuff_34 zc_b_6 ?_
    refine zv_iconst (pc := 36) d_X3_readStuff_36 zc_i_1 ?_
    obtain ⟨q9, hq9, hf⟩ := zw_bdE hf
    refine zx_callV (pc := 37) (As := [.ref v1, .int 6, .int 1]) (o := v0) (st := []) (d2 := 0) (M2 := M_X3_take) (P2 := (fun r S => r = (some (.int q9.1)) ∧ S = (q9.2, R, q8.2))) d_X3_readStuff_37 (zw_mG (List.mem_of_getElem? (i := 707) (by decide +kernel)) rfl) ce_X3_take (zw_RvK g7 rfl rfl) (Nat.le_of_ble_eq_true rfl) rfl (Nat.le_of_ble_eq_true rfl) (by decide) (c_X3_take X v0 v1 6 1 q8.1 R q8.2 _ hq9 ⟨rfl, rfl⟩) ?_
    rintro _ _ ⟨rfl, rfl⟩
    show zy_V X M_X3_readStuff 2 P (37 + 3) [.ref v0, .ref v1, .null, .null, .null, .null, .null] [.int q9.1] (q9.2, R, q8.2)
    refine zv_pop (pc := 40) d_X3_readStuff_40 rfl ?_
    refine zv_aload_n (pc := 41) d_X3_readStuff_41 rfl ?_
    obtain ⟨g10, hf⟩ := zw_gcE hf (by decide)
    refine zx_getR (pc := 42) d_X3_readStuff_42 lk_CutStones_Reader_21 (by decide) g7 g10 ?_
    obtain ⟨q11, hq11, hf⟩ := zw_bdE hf
    refine zx_callV (pc := 45) (As := []) (o := (R v0 2)) (st := []) (d2 := 0) (M2 := M_X1_addStuff) (P2 := (fun r S => r = (some (.ref q11.1)) ∧ S = (q11.2, R, q8.2))) d_X3_readStuff_45 (zw_mG (List.mem_of_getElem? (i := 813) (by decide +kernel)) rfl) ce_X1_addStuff (zw_RvK g10 rfl rfl) (Nat.le_of_ble_eq_true rfl) rfl (Nat.le_of_ble_eq_true rfl) (by decide) (c_X1_addStuff X (R v0 2) q9.2 R q8.2 _ hq11 ⟨rfl, rfl⟩) ?_
    rintro _ _ ⟨rfl, rfl⟩
    show zy_V X M_X3_readStuff 2 P (45 + 3) [.ref v0, .ref v1, .null, .null, .null, .null, .null] [.ref q11.1] (q11.2, R, q8.2)
    refine zx_astore_n (pc := 48) (L2 := [.ref v0, .ref v1, .ref q11.1, .null, .null, .null, .null]) d_X3_readStuff_48 (by decide) rfl ?_
    refine zv_iconst (pc := 49) d_X3_readStuff_49 zc_i_1 ?_
    refine zx_istore_n (pc := 50) (x2 := 1) (L2 := [.ref v0, .ref v1, .ref q11.1, .int 1, .null, .null, .null]) d_X3_readStuff_50 (by decide) rfl rfl ?_
    refine zv_iconst (pc := 51) d_X3_readStuff_51 zc_i_0 ?_
    refine zx_istore (pc := 52) (x2 := 0) (L2 := [.ref v0, .ref v1, .ref q11.1, .int 1, .int 0, .null, .null]) d_X3_readStuff_52 (by decide) rfl rfl ?_
    obtain ⟨q26, hq26, hf⟩ := zw_bdE hf
    refine zx_weak (L' := [.ref v0, .ref v1, .ref q11.1, .int 1, .int 0, .null, .null]) (zw_leS (zw_leS (zw_leS (zw_leS (zw_leS (zw_leN (zw_leN zw_leZ))))))) (s_X3_readStuff_54_lp X P v0 v1 q11.1 R q8.2 _ _ _ hq26 ?_)
    show zy_V X M_X3_readStuff 2 P 133 [.ref v0, .ref v1, .ref q11.1, .null, .null, .null, .null] [] (q26, R, q8.2)
    exact zx_weak (zw_leS (zw_leS (zw_leS (zw_leN (zw_leN (zw_leN (zw_leN zw_leZ))))))) (j_X3_readStuff_133_ok X P v0 v1 q11.1 q26 R q8.2 _ hf hk)
  · refine zv_if_ne (pc := 23) (tg := 27) d_X3_readStuff_23 (by decide) (fun q => absurd q c6) (fun _ => ?_)
    cases hf
    exact zx_vret (pc := 26) d_X3_readStuff_26 rfl hk
def f_X3_readStuff (v0 : Nat) (v1 : Nat) (I : zI) (R : zR) (J : zJ) : Option (zI × zJ) :=
  zw_g (zw_gc v0 3) (zw_g (zw_gc (R v0 2) 1) (if 4 ≤ (I (R v0 2) 1) then j_X3_readStuff_20 v0 v1 v0 v1 18 0 I R J else j_X3_readStuff_20 v0 v1 v0 v1 18 1 I R J))
theorem c_X3_readStuff (X : zw_X) (v0 : Nat) (v1 : Nat) (I : zI) (R : zR) (J : zJ) {P : Option Value → aS → Prop} (o : zI × zJ) (hf : f_X3_readStuff v0 v1 I R J = some o) (hk : P none (o.1, R, o.2)) : zw_C X M_X3_readStuff 2 0 0 199 [.ref v0, .ref v1] (I, R, J) P := by
  show zy_V X M_X3_readStuff 2 P 0 [.ref v0, .ref v1, .null, .null, .null, .null, .null] [] (I, R, J)
  unfold f_X3_readStuff at hf
  refine zv_aload_n (pc := 0) d_X3_readStuff_0 rfl ?_
  refine zv_aload_n (pc := 1) d_X3_readStuff_1 rfl ?_
  refine zv_bipush (pc := 2) d_X3_readStuff_2 zc_b_18 ?_
  refine zv_aload_n (pc := 4) d_X3_readStuff_4 rfl ?_
  obtain ⟨g1, hf⟩ := zw_gcE hf (by decide)
  obtain ⟨g2, hf⟩ := zw_gcE hf (by decide)
  refine zx_getR (pc := 5) d_X3_readStuff_5 lk_CutStones_Reader_21 (by decide) g1 g2 ?_
  refine zx_getI (pc := 8) d_X3_readStuff_8 lk_CutStones_Reader_78 (by decide) g2 ?_
  refine zv_iconst (pc := 11) d_X3_readStuff_11 zc_i_4 ?_
  rcases zw_ifE hf with ⟨c3, hf⟩ | ⟨c3, hf⟩
  · refine zv_icmp_ge (pc := 12) (tg := 19) d_X3_readStuff_12 (by decide) (fun _ => ?_) (fun q => absurd c3 q)
    refine zv_iconst (pc := 19) d_X3_readStuff_19 zc_i_0 ?_
    exact zx_weak (zw_leS (zw_leS (zw_leN (zw_leN (zw_leN (zw_leN (zw_leN zw_leZ))))))) (j_X3_readStuff_20_ok X P v0 v1 v0 v1 18 0 I R J _ hf hk)
  · refine zv_icmp_ge (pc := 12) (tg := 19) d_X3_readStuff_12 (by decide) (fun q => absurd q c3) (fun _ => ?_)
    refine zv_iconst (pc := 15) d_X3_readStuff_15 zc_i_1 ?_
    refine zv_goto (pc := 16) (tg := 20) d_X3_readStuff_16 (by decide) ?_
    exact zx_weak (zw_leS (zw_leS (zw_leN (zw_leN (zw_leN (zw_leN (zw_leN zw_leZ))))))) (j_X3_readStuff_20_ok X P v0 v1 v0 v1 18 1 I R J _ hf hk)
