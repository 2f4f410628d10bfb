abbrev M_X3_takeShare : zw_M := (⟨"CutStones$Reader", "takeShare", "(LCutStones$Tape;Z)I"⟩, prog_5_method_8_code, 5, (Option.some Jvm.ClassFile.FieldType.int))
theorem d_X3_takeShare_0 : decode M_X3_takeShare.2.1 0 = .ok (.aload_n 1, 1) := by decide +kernel
theorem d_X3_takeShare_1 : decode M_X3_takeShare.2.1 1 = .ok (.getfield 59, 3) := by decide +kernel
theorem d_X3_takeShare_4 : decode M_X3_takeShare.2.1 4 = .ok (.aload_n 0, 1) := by decide +kernel
theorem d_X3_takeShare_5 : decode M_X3_takeShare.2.1 5 = .ok (.getfield 25, 3) := by decide +kernel
theorem d_X3_takeShare_8 : decode M_X3_takeShare.2.1 8 = .ok (.iaload, 1) := by decide +kernel
theorem d_X3_takeShare_9 : decode M_X3_takeShare.2.1 9 = .ok (.istore_n 3, 1) := by decide +kernel
theorem d_X3_takeShare_10 : decode M_X3_takeShare.2.1 10 = .ok (.aload_n 1, 1) := by decide +kernel
theorem d_X3_takeShare_11 : decode M_X3_takeShare.2.1 11 = .ok (.getfield 62, 3) := by decide +kernel
theorem d_X3_takeShare_14 : decode M_X3_takeShare.2.1 14 = .ok (.aload_n 0, 1) := by decide +kernel
theorem d_X3_takeShare_15 : decode M_X3_takeShare.2.1 15 = .ok (.getfield 25, 3) := by decide +kernel
theorem d_X3_takeShare_18 : decode M_X3_takeShare.2.1 18 = .ok (.laload, 1) := by decide +kernel
theorem d_X3_takeShare_19 : decode M_X3_takeShare.2.1 19 = .ok (.l2i, 1) := by decide +kernel
theorem d_X3_takeShare_20 : decode M_X3_takeShare.2.1 20 = .ok (.istore 4, 2) := by decide +kernel
theorem d_X3_takeShare_22 : decode M_X3_takeShare.2.1 22 = .ok (.aload_n 0, 1) := by decide +kernel
theorem d_X3_takeShare_23 : decode M_X3_takeShare.2.1 23 = .ok (.aload_n 1, 1) := by decide +kernel
theorem d_X3_takeShare_24 : decode M_X3_takeShare.2.1 24 = .ok (.iconst 3, 1) := by decide +kernel
theorem d_X3_takeShare_25 : decode M_X3_takeShare.2.1 25 = .ok (.iload_n 2, 1) := by decide +kernel
theorem d_X3_takeShare_26 : decode M_X3_takeShare.2.1 26 = .ok (.invokevirtual 66, 3) := by decide +kernel
theorem d_X3_takeShare_29 : decode M_X3_takeShare.2.1 29 = .ok (.ifCond .eq 17, 3) := by decide +kernel
theorem d_X3_takeShare_32 : decode M_X3_takeShare.2.1 32 = .ok (.iload 4, 2) := by decide +kernel
theorem d_X3_takeShare_34 : decode M_X3_takeShare.2.1 34 = .ok (.sipush 1000, 3) := by decide +kernel
theorem d_X3_takeShare_37 : decode M_X3_takeShare.2.1 37 = .ok (.if_icmp .le 9, 3) := by decide +kernel
theorem d_X3_takeShare_40 : decode M_X3_takeShare.2.1 40 = .ok (.aload_n 0, 1) := by decide +kernel
theorem d_X3_takeShare_41 : decode M_X3_takeShare.2.1 41 = .ok (.iconst 5, 1) := by decide +kernel
theorem d_X3_takeShare_42 : decode M_X3_takeShare.2.1 42 = .ok (.iload_n 3, 1) := by decide +kernel
theorem d_X3_takeShare_43 : decode M_X3_takeShare.2.1 43 = .ok (.invokevirtual 74, 3) := by decide +kernel
theorem d_X3_takeShare_46 : decode M_X3_takeShare.2.1 46 = .ok (.iload 4, 2) := by decide +kernel
theorem d_X3_takeShare_48 : decode M_X3_takeShare.2.1 48 = .ok (.ireturn, 1) := by decide +kernel
theorem ce_X3_takeShare : zw_CeV M_X3_takeShare 2 := ⟨⟨⟨by decide +kernel, by decide +kernel, by decide +kernel⟩, (zw_mG (List.mem_of_getElem? (i := 820) (by decide +kernel)) rfl), (zw_mG (List.mem_of_getElem? (i := 98) (by decide +kernel)) rfl), by decide, by decide +kernel⟩, (zw_mG (List.mem_of_getElem? (i := 819) (by decide +kernel)) rfl), (zw_mG (List.mem_of_getElem? (i := 21) (by decide +kernel)) rfl)⟩
def f_X3_takeShare (v0 : Nat) (v1 : Nat) (v2 : Int32) (I : zI) (R : zR) (J : zJ) : Option (Int32 × zI) :=
  zw_g (zw_gc v1 8) (zw_g (zw_gc (R v1 3) 13) (zw_g (zw_gc v0 3) (zw_g (zw_in (I v0 3) (zw_SH (R v1 3)).2) (zw_let ((I (R v1 3) (Int32.toNatClampNeg (I v0 3))) : Int32) fun x5 => (zw_g (zw_gc (R v1 4) 14) (zw_g (zw_in (I v0 3) (zw_SH (R v1 4)).2) (zw_let ((Int64.toInt32 (J (R v1 4) (Int32.toNatClampNeg (I v0 3)))) : Int32) fun x8 => ((f_X3_take v0 v1 3 v2 I R).bind fun q9 => (if q9.1 = 0 then some (x8, q9.2) else if x8 ≤ 1000 then some (x8, q9.2) else (f_X3_noteLater v0 5 x5 q9.2).bind fun q12 => (some (x8, q12)))))))))))
theorem c_X3_takeShare (X : zw_X) (v0 : Nat) (v1 : Nat) (v2 : Int32) (I : zI) (R : zR) (J : zJ) {P : Option Value → aS → Prop} (o : Int32 × zI) (hf : f_X3_takeShare v0 v1 v2 I R J = some o) (hk : P (some (.int o.1)) (o.2, R, J)) : zw_C X M_X3_takeShare 1 0 0 199 [.ref v0, .ref v1, .int v2] (I, R, J) P := by
  show zy_V X M_X3_takeShare 1 P 0 [.ref v0, .ref v1, .int v2, .null, .null] [] (I, R, J)
  unfold f_X3_takeShare at hf
  refine zv_aload_n (pc := 0) d_X3_takeShare_0 rfl ?_
  obtain ⟨g1, hf⟩ := zw_gcE hf (by decide)
  obtain ⟨g2, hf⟩ := zw_gcE hf (by decide)
  refine zx_getR (pc := 1) d_X3_takeShare_1 lk_CutStones_Reader_59 (by decide) g1 g2 ?_
  refine zv_aload_n (pc := 4) d_X3_takeShare_4 rfl ?_
  obtain ⟨g3, hf⟩ := zw_gcE hf (by decide)
  refine zx_getI (pc := 5) d_X3_takeShare_5 lk_CutStones_Reader_25 (by decide) g3 ?_
  obtain ⟨i4, hf⟩ := zw_inE hf
  refine zx_iald (pc := 8) d_X3_takeShare_8 g2 i4 ?_
  obtain ⟨x5, ex5, hf⟩ := zw_letE hf
  refine zx_istore_n (pc := 9) (x2 := x5) (L2 := [.ref v0, .ref v1, .int v2, .int x5, .null]) d_X3_takeShare_9 (by decide) ex5 rfl ?_
  refine zv_aload_n (pc := 10) d_X3_takeShare_10 rfl ?_
  obtain ⟨g6, hf⟩ := zw_gcE hf (by decide)
  refine zx_getR (pc := 11) d_X3_takeShare_11 lk_CutStones_Reader_62 (by decide) g1 g6 ?_
  refine zv_aload_n (pc := 14) d_X3_takeShare_14 rfl ?_
  refine zx_getI (pc := 15) d_X3_takeShare_15 lk_CutStones_Reader_25 (by decide) g3 ?_
  obtain ⟨i7, hf⟩ := zw_inE hf
  refine zx_lald (pc := 18) d_X3_takeShare_18 g6 i7 ?_
  refine zv_l2i (pc := 19) d_X3_takeShare_19 ?_
  obtain ⟨x8, ex8, hf⟩ := zw_letE hf
  refine zx_istore (pc := 20) (x2 := x8) (L2 := [.ref v0, .ref v1, .int v2, .int x5, .int x8]) d_X3_takeShare_20 (by decide) ex8 rfl ?_
  refine zv_aload_n (pc := 22) d_X3_takeShare_22 rfl ?_
  refine zv_aload_n (pc := 23) d_X3_takeShare_23 rfl ?_
  refine zv_iconst (pc := 24) d_X3_takeShare_24 zc_i_3 ?_
  refine zv_iload_n (pc := 25) d_X3_takeShare_25 rfl ?_
  obtain ⟨q9, hq9, hf⟩ := zw_bdE hf
  refine zx_callV (pc := 26) (As := [.ref v1, .int 3, .int v2]) (o := v0) (st := []) (d2 := 0) (M2 := M_X3_take) (P2 := (fun r S => r = (some (.int q9.1)) ∧ S = (q9.2, R, J))) d_X3_takeShare_26 (zw_mG (List.mem_of_getElem? (i := 707) (by decide +kernel)) rfl) ce_X3_take (zw_RvK g3 rfl rfl) (Nat.le_of_ble_eq_true rfl) rfl (Nat.le_of_ble_eq_true rfl) (by decide) (c_X3_take X v0 v1 3 v2 I R J _ hq9 ⟨rfl, rfl⟩) ?_
  rintro _ _ ⟨rfl, rfl⟩
  show zy_V X M_X3_takeShare 1 P (26 + 3) [.ref v0, .ref v1, .int v2, .int x5, .int x8] [.int q9.1] (q9.2, R, J)
  rcases zw_ifE hf with ⟨c10, hf⟩ | ⟨c10, hf⟩
  · refine zv_if_eq (pc := 29) (tg := 46) d_X3_takeShare_29 (by decide) (fun _ => ?_) (fun q => absurd c10 q)
    refine zv_iload (pc := 46) d_X3_takeShare_46 rfl ?_
    cases hf
    exact zx_iret (pc := 48) d_X3_takeShare_48 rfl hk
  · refine zv_if_eq (pc := 29) (tg := 46) d_X3_takeShare_29 (by decide) (fun q => absurd q c10) (fun _ => ?_)
    refine zv_iload (pc := 32) d_X3_takeShare_32 rfl ?_
    refine zv_sipush (pc := 34) d_X3_takeShare_34 zc_s_1000 ?_
    rcases zw_ifE hf with ⟨c11, hf⟩ | ⟨c11, hf⟩
    · refine zv_icmp_le (pc := 37) (tg := 46) d_X3_takeShare_37 (by decide) (fun _ => ?_) (fun q => absurd c11 q)
      refine zv_iload (pc := 46) d_X3_takeShare_46 rfl ?_
      cases hf
      exact zx_iret (pc := 48) d_X3_takeShare_48 rfl hk
    · refine zv_icmp_le (pc := 37) (tg := 46) d_X3_takeShare_37 (by decide) (fun q => absurd q c11) (fun _ => ?_)
      refine zv_aload_n (pc := 40) d_X3_takeShare_40 rfl ?_
      refine zv_iconst (pc := 41) d_X3_takeShare_41 zc_i_5 ?_
      refine zv_iload_n (pc := 42) d_X3_takeShare_42 rfl ?_
      obtain ⟨q12, hq12, hf⟩ := zw_bdE hf
      refine zx_callV (pc := 43) (As := [.int 5, .int x5]) (o := v0) (st := []) (d2 := 0) (M2 := M_X3_noteLater) (P2 := (fun r S => r = none ∧ S = (q12, R, J))) d_X3_takeShare_43 (zw_mG (List.mem_of_getElem? (i := 731) (by decide +kernel)) rfl) ce_X3_noteLater (zw_RvK g3 rfl rfl) (Nat.le_of_ble_eq_true rfl) rfl (Nat.le_of_ble_eq_true rfl) (by decide) (c_X3_noteLater X v0 5 x5 q9.2 R J _ hq12 ⟨rfl, rfl⟩) ?_
      rintro _ _ ⟨rfl, rfl⟩
      show zy_V X M_X3_takeShare 1 P (43 + 3) [.ref v0, .ref v1, .int v2, .int x5, .int x8] [] (q12, R, J)
      refine zv_iload (pc := 46) d_X3_takeShare_46 rfl ?_
      cases hf
      exact zx_iret (pc := 48) d_X3_takeShare_48 rfl hk
abbrev M_X4_joined : zw_M := (⟨"CutStones$Reckoner", "joined", "(III)I"⟩, prog_6_method_5_code, 4, (Option.some Jvm.ClassFile.FieldType.int))
theorem d_X4_joined_0 : decode M_X4_joined.2.1 0 = .ok (.iload_n 1, 1) := by decide +kernel
theorem d_X4_joined_1 : decode M_X4_joined.2.1 1 = .ok (.tableswitch 118 8 26 #[91, 95, 99, 103, 118, 118, 118, 118, 118, 118, 118, 118, 118, 118, 118, 118, 118, 114, 110], 91) := by decide +kernel
theorem d_X4_joined_92 : decode M_X4_joined.2.1 92 = .ok (.iload_n 2, 1) := by decide +kernel
theorem d_X4_joined_93 : decode M_X4_joined.2.1 93 = .ok (.iload_n 3, 1) := by decide +kernel
theorem d_X4_joined_94 : decode M_X4_joined.2.1 94 = .ok (.iadd, 1) := by decide +kernel
theorem d_X4_joined_95 : decode M_X4_joined.2.1 95 = .ok (.ireturn, 1) := by decide +kernel
theorem d_X4_joined_96 : decode M_X4_joined.2.1 96 = .ok (.iload_n 2, 1) := by decide +kernel
theorem d_X4_joined_97 : decode M_X4_joined.2.1 97 = .ok (.iload_n 3, 1) := by decide +kernel
theorem d_X4_joined_98 : decode M_X4_joined.2.1 98 = .ok (.isub, 1) := by decide +kernel
theorem d_X4_joined_99 : decode M_X4_joined.2.1 99 = .ok (.ireturn, 1) := by decide +kernel
theorem d_X4_joined_100 : decode M_X4_joined.2.1 100 = .ok (.iload_n 2, 1) := by decide +kernel
theorem d_X4_joined_101 : decode M_X4_joined.2.1 101 = .ok (.iload_n 3, 1) := by decide +kernel
theorem d_X4_joined_102 : decode M_X4_joined.2.1 102 = .ok (.imul, 1) := by decide +kernel
theorem d_X4_joined_103 : decode M_X4_joined.2.1 103 = .ok (.ireturn, 1) := by decide +kernel
theorem d_X4_joined_104 : decode M_X4_joined.2.1 104 = .ok (.aload_n 0, 1) := by decide +kernel
theorem d_X4_joined_105 : decode M_X4_joined.2.1 105 = .ok (.iload_n 2, 1) := by decide +kernel
theorem d_X4_joined_106 : decode M_X4_joined.2.1 106 = .ok (.iload_n 3, 1) := by decide +kernel
theorem d_X4_joined_107 : decode M_X4_joined.2.1 107 = .ok (.invokevirtual 73, 3) := by decide +kernel
theorem d_X4_joined_110 : decode M_X4_joined.2.1 110 = .ok (.ireturn, 1) := by decide +kernel
theorem d_X4_joined_111 : decode M_X4_joined.2.1 111 = .ok (.iload_n 2, 1) := by decide +kernel
theorem d_X4_joined_112 : decode M_X4_joined.2.1 112 = .ok (.iload_n 3, 1) := by decide +kernel
theorem d_X4_joined_113 : decode M_X4_joined.2.1 113 = .ok (.iand, 1) := by decide +kernel
theorem d_X4_joined_114 : decode M_X4_joined.2.1 114 = .ok (.ireturn, 1) := by decide +kernel
theorem d_X4_joined_115 : decode M_X4_joined.2.1 115 = .ok (.iload_n 2, 1) := by decide +kernel
theorem d_X4_joined_116 : decode M_X4_joined.2.1 116 = .ok (.iload_n 3, 1) := by decide +kernel
theorem d_X4_joined_117 : decode M_X4_joined.2.1 117 = .ok (.ior, 1) := by decide +kernel
theorem d_X4_joined_118 : decode M_X4_joined.2.1 118 = .ok (.ireturn, 1) := by decide +kernel
theorem d_X4_joined_119 : decode M_X4_joined.2.1 119 = .ok (.aload_n 0, 1) := by decide +kernel
theorem d_X4_joined_120 : decode M_X4_joined.2.1 120 = .ok (.iload_n 1, 1) := by decide +kernel
theorem d_X4_joined_121 : decode M_X4_joined.2.1 121 = .ok (.iload_n 2, 1) := by decide +kernel
theorem d_X4_joined_122 : decode M_X4_joined.2.1 122 = .ok (.iload_n 3, 1) := by decide +kernel
theorem d_X4_joined_123 : decode M_X4_joined.2.1 123 = .ok (.invokevirtual 76, 3) := by decide +kernel
theorem d_X4_joined_126 : decode M_X4_joined.2.1 126 = .ok (.ifCond .eq 7, 3) := by decide +kernel
theorem d_X4_joined_129 : decode M_X4_joined.2.1 129 = .ok (.iconst 1, 1) := by decide +kernel
theorem d_X4_joined_130 : decode M_X4_joined.2.1 130 = .ok (.goto 4, 3) := by decide +kernel
theorem d_X4_joined_133 : decode M_X4_joined.2.1 133 = .ok (.iconst 0, 1) := by decide +kernel
theorem d_X4_joined_134 : decode M_X4_joined.2.1 134 = .ok (.ireturn, 1) := by decide +kernel
theorem ce_X4_joined : zw_CeV M_X4_joined 3 := ⟨⟨⟨by decide +kernel, by decide +kernel, by decide +kernel⟩, (zw_mG (List.mem_of_getElem? (i := 1006) (by decide +kernel)) rfl), (zw_mG (List.mem_of_getElem? (i := 105) (by decide +kernel)) rfl), by decide, by decide +kernel⟩, (zw_mG (List.mem_of_getElem? (i := 1005) (by decide +kernel)) rfl), (zw_mG (List.mem_of_getElem? (i := 37) (by decide +kernel)) rfl)⟩
def f_X4_joined (v0 : Nat) (v1 : Int32) (v2 : Int32) (v3 : Int32) (I : zI) : Option (Int32 × zI) :=
  if v1 = 8 then some ((v2 + v3), I) else (if v1 = 9 then some ((v2 - v3), I) else (if v1 = 10 then some ((v2 * v3), I) else (if v1 = 11 then zw_g (zw_gc v0 4) ((f_X4_divided v0 v2 v3 I).bind fun q6 => (some (q6.1, q6.2))) else (if v1 = 12 then zw_g (zw_gc v0 4) ((f_X4_compared v0 v1 v2 v3 I).bind fun q9 => (if q9.1 = 0 then some (0, q9.2) else some (1, q9.2))) else (if v1 = 13 then zw_g (zw_gc v0 4) ((f_X4_compared v0 v1 v2 v3 I).bind fun q13 => (if q13.1 = 0 then some (0, q13.2) else some (1, q13.2))) else (if v1 = 14 then zw_g (zw_gc v0 4) ((f_X4_compared v0 v1 v2 v3 I).bind fun q17 => (if q17.1 = 0 then some (0, q17.2) else some (1, q17.2))) else (if v1 = 15 then zw_g (zw_gc v0 4) ((f_X4_compared v0 v1 v2 v3 I).bind fun q21 => (if q21.1 = 0 then some (0, q21.2) else some (1, q21.2))) else (if v1 = 16 then zw_g (zw_gc v0 4) ((f_X4_compared v0 v1 v2 v3 I).bind fun q25 => (if q25.1 = 0 then some (0, q25.2) else some (1, q25.2))) else (if v1 = 17 then zw_g (zw_gc v0 4) ((f_X4_compared v0 v1 v2 v3 I).bind fun q29 => (if q29.1 = 0 then some (0, q29.2) else some (1, q29.2))) else (if v1 = 18 then zw_g (zw_gc v0 4) ((f_X4_compared v0 v1 v2 v3 I).bind fun q33 => (if q33.1 = 0 then some (0, q33.2) else some (1, q33.2))) else (if v1 = 19 then zw_g (zw_gc v0 4) ((f_X4_compared v0 v1 v2 v3 I).bind fun q37 => (if q37.1 = 0 then some (0, q37.2) else some (1, q37.2))) else (if v1 = 20 then zw_g (zw_gc v0 4) ((f_X4_compared v0 v1 v2 v3 I).bind fun q41 => (if q41.1 = 0 then some (0, q41.2) else some (1, q41.2))) else (if v1 = 21 then zw_g (zw_gc v0 4) ((f_X4_compared v0 v1 v2 v3 I).bind fun q45 => (if q45.1 = 0 then some (0, q45.2) else some (1, q45.2))) else (if v1 = 22 then zw_g (zw_gc v0 4) ((f_X4_compared v0 v1 v2 v3 I).bind fun q49 => (if q49.1 = 0 then some (0, q49.2) else some (1, q49.2))) else (if v1 = 23 then zw_g (zw_gc v0 4) ((f_X4_compared v0 v1 v2 v3 I).bind fun q53 => (if q53.1 = 0 then some (0, q53.2) else some (1, q53.2))) else (if v1 = 24 then zw_g (zw_gc v0 4) ((f_X4_compared v0 v1 v2 v3 I).bind fun q57 => (if q57.1 = 0 then some (0, q57.2) else some (1, q57.2))) else (if v1 = 25 then some ((v2 ||| v3), I) else (if v1 = 26 then some ((v2 &&& v3), I) else (zw_g (zw_gc v0 4) ((f_X4_compared v0 v1 v2 v3 I).bind fun q62 => (if q62.1 = 0 then some (0, q62.2) else some (1, q62.2))))))))))))))))))))))
theorem c_X4_joined (X : zw_X) (v0 : Nat) (v1 : Int32) (v2 : Int32) (v3 : Int32) (I : zI) (R : zR) (J : zJ) {P : Option Value → aS → Prop} (o : Int32 × zI) (hf : f_X4_joined v0 v1 v2 v3 I = some o) (hk : P (some (.int o.1)) (o.2, R, J)) : zw_C X M_X4_joined 1 0 0 199 [.ref v0, .int v1, .int v2, .int v3] (I, R, J) P := by
  show zy_V X M_X4_joined 1 P 0 [.ref v0, .int v1, .int v2, .int v3] [] (I, R, J)
  unfold f_X4_joined at hf
  refine zv_iload_n (pc := 0) d_X4_joined_0 rfl ?_
  rcases zw_ifE hf with ⟨c1, hf⟩ | ⟨c1, hf⟩
  · refine zx_tsIn (pc := 1) (tg := 92) (z := 91) d_X4_joined_1 (by rw [c1]; decide +kernel) (by rw [c1]; decide +kernel) (by rw [c1]; decide +kernel) (by decide) ?_
    refine zv_iload_n (pc := 92) d_X4_joined_92 rfl ?_
    refine zv_iload_n (pc := 93) d_X4_joined_93 rfl ?_
    refine zv_iadd (pc := 94) d_X4_joined_94 ?_
    cases hf
    exact zx_iret (pc := 95) d_X4_joined_95 rfl hk
  ·
    rcases zw_ifE hf with ⟨c2, hf⟩ | ⟨c2, hf⟩
    · refine zx_tsIn (pc := 1) (tg := 96) (z := 95) d_X4_joined_1 (by rw [c2]; decide +kernel) (by rw [c2]; decide +kernel) (by rw [c2]; decide +kernel) (by decide) ?_
      refine zv_iload_n (pc := 96) d_X4_joined_96 rfl ?_
      refine zv_iload_n (pc := 97) d_X4_joined_97 rfl ?_
      refine zv_isub (pc := 98) d_X4_joined_98 ?_
      cases hf
      exact zx_iret (pc := 99) d_X4_joined_99 rfl hk
    ·
      rcases zw_ifE hf with ⟨c3, hf⟩ | ⟨c3, hf⟩
      · refine zx_tsIn (pc := 1) (tg := 100) (z := 99) d_X4_joined_1 (by rw [c3]; decide +kernel) (by rw [c3]; decide +kernel) (by rw [c3]; decide +kernel) (by decide) ?_
        refine zv_iload_n (pc := 100) d_X4_joined_100 rfl ?_
        refine zv_iload_n (pc := 101) d_X4_joined_101 rfl ?_
        refine zv_imul (pc := 102) d_X4_joined_102 ?_
        cases hf
        exact zx_iret (pc := 103) d_X4_joined_103 rfl hk
      ·
        rcases zw_ifE hf with ⟨c4, hf⟩ | ⟨c4, hf⟩
        · refine zx_tsIn (pc := 1) (tg := 104) (z := 103) d_X4_joined_1 (by rw [c4]; decide +kernel) (by rw [c4]; decide +kernel) (by rw [c4]; decide +kernel) (by decide) ?_
          refine zv_aload_n (pc := 104) d_X4_joined_104 rfl ?_
          refine zv_iload_n (pc := 105) d_X4_joined_105 rfl ?_
          refine zv_iload_n (pc := 106) d_X4_joined_106 rfl ?_
          obtain ⟨g5, hf⟩ := zw_gcE hf (by decide)
          obtain ⟨q6, hq6, hf⟩ := zw_bdE hf
          refine zx_callV (pc := 107) (As := [.int v2, .int v3]) (o := v0) (st := []) (d2 := 0) (M2 := M_X4_divided) (P2 := (fun r S => r = (some (.int q6.1)) ∧ S = (q6.2, R, J))) d_X4_joined_107 (zw_mG (List.mem_of_getElem? (i := 1007) (by decide +kernel)) rfl) ce_X4_divided (zw_RvK g5 rfl rfl) (Nat.le_of_ble_eq_true rfl) rfl (Nat.le_of_ble_eq_true rfl) (by decide) (c_X4_divided X v0 v2 v3 I R J _ hq6 ⟨rfl, rfl⟩) ?_
          rintro _ _ ⟨rfl, rfl⟩
          show zy_V X M_X4_joined 1 P (107 + 3) [.ref v0, .int v1, .int v2, .int v3] [.int q6.1] (q6.2, R, J)
          cases hf
          exact zx_iret (pc := 110) d_X4_joined_110 rfl hk
        ·
          rcases zw_ifE hf with ⟨c7, hf⟩ | ⟨c7, hf⟩
          · refine zx_tsIn (pc := 1) (tg := 119) (z := 118) d_X4_joined_1 (by rw [c7]; decide +kernel) (by rw [c7]; decide +kernel) (by rw [c7]; decide +kernel) (by decide) ?_
            refine zv_aload_n (pc := 119) d_X4_joined_119 rfl ?_
            refine zv_iload_n (pc := 120) d_X4_joined_120 rfl ?_
            refine zv_iload_n (pc := 121) d_X4_joined_121 rfl ?_
            refine zv_iload_n (pc := 122) d_X4_joined_122 rfl ?_
            obtain ⟨g8, hf⟩ := zw_gcE hf (by decide)
            obtain ⟨q9, hq9, hf⟩ := zw_bdE hf
            refine zx_callV (pc := 123) (As := [.int v1, .int v2, .int v3]) (o := v0) (st := []) (d2 := 0) (M2 := M_X4_compared) (P2 := (fun r S => r = (some (.int q9.1)) ∧ S = (q9.2, R, J))) d_X4_joined_123 (zw_mG (List.mem_of_getElem? (i := 1011) (by decide +kernel)) rfl) ce_X4_compared (zw_RvK g8 rfl rfl) (Nat.le_of_ble_eq_true rfl) rfl (Nat.le_of_ble_eq_true rfl) (by decide) (c_X4_compared X v0 v1 v2 v3 I R J _ hq9 ⟨rfl, rfl⟩) ?_
            rintro _ _ ⟨rfl, rfl⟩
            show zy_V X M_X4_joined 1 P (123 + 3) [.ref v0, .int v1, .int v2, .int v3] [.int q9.1] (q9.2, R, J)
            rcases zw_ifE hf with ⟨c10, hf⟩ | ⟨c10, hf⟩
            · refine zv_if_eq (pc := 126) (tg := 133) d_X4_joined_126 (by decide) (fun _ => ?_) (fun q => absurd c10 q)
              refine zv_iconst (pc := 133) d_X4_joined_133 zc_i_0 ?_
              cases hf
              exact zx_iret (pc := 134) d_X4_joined_134 rfl hk
            · refine zv_if_eq (pc := 126) (tg := 133) d_X4_joined_126 (by decide) (fun q => absurd q c10) (fun _ => ?_)
              refine zv_iconst (pc := 129) d_X4_joined_129 zc_i_1 ?_
              refine zv_goto (pc := 130) (tg := 134) d_X4_joined_130 (by decide) ?_
              cases hf
              exact zx_iret (pc := 134) d_X4_joined_134 rfl hk
          ·
            rcases zw_ifE hf with ⟨c11, hf⟩ | ⟨c11, hf⟩
            · refine zx_tsIn (pc := 1) (tg := 119) (z := 118) d_X4_joined_1 (by rw [c11]; decide +kernel) (by rw [c11]; decide +kernel) (by rw [c11]; decide +kernel) (by decide) ?_
              refine zv_aload_n (pc := 119) d_X4_joined_119 rfl ?_
              refine zv_iload_n (pc := 120) d_X4_joined_120 rfl ?_
              refine zv_iload_n (pc := 121) d_X4_joined_121 rfl ?_
              refine zv_iload_n (pc := 122) d_X4_joined_122 rfl ?_
              obtain ⟨g12, hf⟩ := zw_gcE hf (by decide)
              obtain ⟨q13, hq13, hf⟩ := zw_bdE hf
              refine zx_callV (pc := 123) (As := [.int v1, .int v2, .int v3]) (o := v0) (st := []) (d2 := 0) (M2 := M_X4_compared) (P2 := (fun r S => r = (some (.int q13.1)) ∧ S = (q13.2, R, J))) d_X4_joined_123 (zw_mG (List.mem_of_getElem? (i := 1011) (by decide +kernel)) rfl) ce_X4_compared (zw_RvK g12 rfl rfl) (Nat.le_of_ble_eq_true rfl) rfl (Nat.le_of_ble_eq_true rfl) (by decide) (c_X4_compared X v0 v1 v2 v3 I R J _ hq13 ⟨rfl, rfl⟩) ?_
              rintro _ _ ⟨rfl, rfl⟩
              show zy_V X M_X4_joined 1 P (123 + 3) [.ref v0, .int v1, .int v2, .int v3] [.int q13.1] (q13.2, R, J)
              rcases zw_ifE hf with ⟨c14, hf⟩ | ⟨c14, hf⟩
              · refine zv_if_eq (pc := 126) (tg := 133) d_X4_joined_126 (by decide) (fun _ => ?_) (fun q => absurd c14 q)
                refine zv_iconst (pc := 133) d_X4_joined_133 zc_i_0 ?_
                cases hf
                exact zx_iret (pc := 134) d_X4_joined_134 rfl hk
              · refine zv_if_eq (pc := 126) (tg := 133) d_X4_joined_126 (by decide) (fun q => absurd q c14) (fun _ => ?_)
                refine zv_iconst (pc := 129) d_X4_joined_129 zc_i_1 ?_
                refine zv_goto (pc := 130) (tg := 134) d_X4_joined_130 (by decide) ?_
                cases hf
                exact zx_iret (pc := 134) d_X4_joined_134 rfl hk
            ·
              rcases zw_ifE hf with ⟨c15, hf⟩ | ⟨c15, hf⟩
              · refine zx_tsIn (pc := 1) (tg := 119) (z := 118) d_X4_joined_1 (by rw [c15]; decide +kernel) (by rw [c15]; decide +kernel) (by rw [c15]; decide +kernel) (by decide) ?_
                refine zv_aload_n (pc := 119) d_X4_joined_119 rfl ?_
                refine zv_iload_n (pc := 120) d_X4_joined_120 rfl ?_
                refine zv_iload_n (pc := 121) d_X4_joined_121 rfl ?_
                refine zv_iload_n (pc := 122) d_X4_joined_122 rfl ?_
                obtain ⟨g16, hf⟩ := zw_gcE hf (by decide)
                obtain ⟨q17, hq17, hf⟩ := zw_bdE hf
                refine zx_callV (pc := 123) (As := [.int v1, .int v2, .int v3]) (o := v0) (st := []) (d2 := 0) (M2 := M_X4_compared) (P2 := (fun r S => r = (some (.int q17.1)) ∧ S = (q17.2, R, J))) d_X4_joined_123 (zw_mG (List.mem_of_getElem? (i := 1011) (by decide +kernel)) rfl) ce_X4_compared (zw_RvK g16 rfl rfl) (Nat.le_of_ble_eq_true rfl) rfl (Nat.le_of_ble_eq_true rfl) (by decide) (c_X4_compared X v0 v1 v2 v3 I R J _ hq17 ⟨rfl, rfl⟩) ?_
                rintro _ _ ⟨rfl, rfl⟩
                show zy_V X M_X4_joined 1 P (123 + 3) [.ref v0, .int v1, .int v2, .int v3] [.int q17.1] (q17.2, R, J)
                rcases zw_ifE hf with ⟨c18, hf⟩ | ⟨c18, hf⟩
                · refine zv_if_eq (pc := 126) (tg := 133) d_X4_joined_126 (by decide) (fun _ => ?_) (fun q => absurd c18 q)
                  refine zv_iconst (pc := 133) d_X4_joined_133 zc_i_0 ?_
                  cases hf
                  exact zx_iret (pc := 134) d_X4_joined_134 rfl hk
                · refine zv_if_eq (pc := 126) (tg := 133) d_X4_joined_126 (by decide) (fun q => absurd q c18) (fun _ => ?_)
                  refine zv_iconst (pc := 129) d_X4_joined_129 zc_i_1 ?_
                  refine zv_goto (pc := 130) (tg := 134) d_X4_joined_130 (by decide) ?_
                  cases hf
                  exact zx_iret (pc := 134) d_X4_joined_134 rfl hk
              ·
                rcases zw_ifE hf with ⟨c19, hf⟩ | ⟨c19, hf⟩
                · refine zx_tsIn (pc := 1) (tg := 119) (z := 118) d_X4_joined_1 (by rw [c19]; decide +kernel) (by rw [c19]; decide +kernel) (by rw [c19]; decide +kernel) (by decide) ?_
                  refine zv_aload_n (pc := 119) d_X4_joined_119 rfl ?_
                  refine zv_iload_n (pc := 120) d_X4_joined_120 rfl ?_
                  refine zv_iload_n (pc := 121) d_X4_joined_121 rfl ?_
                  refine zv_iload_n (pc := 122) d_X4_joined_122 rfl ?_
                  obtain ⟨g20, hf⟩ := zw_gcE hf (by decide)
                  obtain ⟨q21, hq21, hf⟩ := zw_bdE hf
                  refine zx_callV (pc := 123) (As := [.int v1, .int v2, .int v3]) (o := v0) (st := []) (d2 := 0) (M2 := M_X4_compared) (P2 := (fun r S => r = (some (.int q21.1)) ∧ S = (q21.2, R, J))) d_X4_joined_123 (zw_mG (List.mem_of_getElem? (i := 1011) (by decide +kernel)) rfl) ce_X4_compared (zw_RvK g20 rfl rfl) (Nat.le_of_ble_eq_true rfl) rfl (Nat.le_of_ble_eq_true rfl) (by decide) (c_X4_compared X v0 v1 v2 v3 I R J _ hq21 ⟨rfl, rfl⟩) ?_
                  rintro _ _ ⟨rfl, rfl⟩
                  show zy_V X M_X4_joined 1 P (123 + 3) [.ref v0, .int v1, .int v2, .int v3] [.int q21.1] (q21.2, R, J)
                  rcases zw_ifE hf with ⟨c22, hf⟩ | ⟨c22, hf⟩
                  · refine zv_if_eq (pc := 126) (tg := 133) d_X4_joined_126 (by decide) (fun _ => ?_) (fun q => absurd c22 q)
                    refine zv_iconst (pc := 133) d_X4_joined_133 zc_i_0 ?_
                    cases hf
                    exact zx_iret (pc := 134) d_X4_joined_134 rfl hk
                  · refine zv_if_eq (pc := 126) (tg := 133) d_X4_joined_126 (by decide) (fun q => absurd q c22) (fun _ => ?_)
                    refine zv_iconst (pc := 129) d_X4_joined_129 zc_i_1 ?_
                    refine zv_goto (pc := 130) (tg := 134) d_X4_joined_130 (by decide) ?_
                    cases hf
                    exact zx_iret (pc := 134) d_X4_joined_134 rfl hk
                ·
                  rcases zw_ifE hf with ⟨c23, hf⟩ | ⟨c23, hf⟩
                  · refine zx_tsIn (pc := 1) (tg := 119) (z := 118) d_X4_joined_1 (by rw [c23]; decide +kernel) (by rw [c23]; decide +kernel) (by rw [c23]; decide +kernel) (by decide) ?_
                    refine zv_aload_n (pc := 119) d_X4_joined_119 rfl ?_
                    refine zv_iload_n (pc := 120) d_X4_joined_120 rfl ?_
                    refine zv_iload_n (pc := 121) d_X4_joined_121 rfl ?_
                    refine zv_iload_n (pc := 122) d_X4_joined_122 rfl ?_
                    obtain ⟨g24, hf⟩ := zw_gcE hf (by decide)
                    obtain ⟨q25, hq25, hf⟩ := zw_bdE hf
                    refine zx_callV (pc := 123) (As := [.int v1, .int v2, .int v3]) (o := v0) (st := []) (d2 := 0) (M2 := M_X4_compared) (P2 := (fun r S => r = (some (.int q25.1)) ∧ S = (q25.2, R, J))) d_X4_joined_123 (zw_mG (List.mem_of_getElem? (i := 1011) (by decide +kernel)) rfl) ce_X4_compared (zw_RvK g24 rfl rfl) (Nat.le_of_ble_eq_true rfl) rfl (Nat.le_of_ble_eq_true rfl) (by decide) (c_X4_compared X v0 v1 v2 v3 I R J _ hq25 ⟨rfl, rfl⟩) ?_
                    rintro _ _ ⟨rfl, rfl⟩
                    show zy_V X M_X4_joined 1 P (123 + 3) [.ref v0, .int v1, .int v2, .int v3] [.int q25.1] (q25.2, R, J)
                    rcases zw_ifE hf with ⟨c26, hf⟩ | ⟨c26, hf⟩
                    · refine zv_if_eq (pc := 126) (tg := 133) d_X4_joined_126 (by decide) (fun _ => ?_) (fun q => absurd c26 q)
                      refine zv_iconst (pc := 133) d_X4_joined_133 zc_i_0 ?_
                      cases hf
                      exact zx_iret (pc := 134) d_X4_joined_134 rfl hk
                    · refine zv_if_eq (pc := 126) (tg := 133) d_X4_joined_126 (by decide) (fun q => absurd q c26) (fun _ => ?_)
                      refine zv_iconst (pc := 129) d_X4_joined_129 zc_i_1 ?_
                      refine zv_goto (pc := 130) (tg := 134) d_X4_joined_130 (by decide) ?_
                      cases hf
                      exact zx_iret (pc := 134) d_X4_joined_134 rfl hk
                  ·
                    rcases zw_ifE hf with ⟨c27, hf⟩ | ⟨c27, hf⟩
                    · refine zx_tsIn (pc := 1) (tg := 119) (z := 118) d_X4_joined_1 (by rw [c27]; decide +kernel) (by rw [c27]; decide +kernel) (by rw [c27]; decide +kernel) (by decide) ?_
                      refine zv_aload_n (pc := 119) d_X4_joined_119 rfl ?_
                      refine zv_iload_n (pc := 120) d_X4_joined_120 rfl ?_
                      refine zv_iload_n (pc := 121) d_X4_joined_121 rfl ?_
                      refine zv_iload_n (pc := 122) d_X4_joined_122 rfl ?_
                      obtain ⟨g28, hf⟩ := zw_gcE hf (by decide)
                      obtain ⟨q29, hq29, hf⟩ := zw_bdE hf
                      refine zx_callV (pc := 123) (As := [.int v1, .int v2, .int v3]) (o := v0) (st := []) (d2 := 0) (M2 := M_X4_compared) (P2 := (fun r S => r = (some (.int q29.1)) ∧ S = (q29.2, R, J))) d_X4_joined_123 (zw_mG (List.mem_of_getElem? (i := 1011) (by decide +kernel)) rfl) ce_X4_compared (zw_RvK g28 rfl rfl) (Nat.le_of_ble_eq_true rfl) rfl (Nat.le_of_ble_eq_true rfl) (by decide) (c_X4_compared X v0 v1 v2 v3 I R J _ hq29 ⟨rfl, rfl⟩) ?_
                      rintro _ _ ⟨rfl, rfl⟩
                      show zy_V X M_X4_joined 1 P (123 + 3) [.ref v0, .int v1, .int v2, .int v3] [.int q29.1] (q29.2, R, J)
                      rcases zw_ifE hf with ⟨c30, hf⟩ | ⟨c30, hf⟩
                      · refine zv_if_eq (pc := 126) (tg := 133) d_X4_joined_126 (by decide) (fun _ => ?_) (fun q => absurd c30 q)
                        refine zv_iconst (pc := 133) d_X4_joined_133 zc_i_0 ?_
                        cases hf
                        exact zx_iret (pc := 134) d_X4_joined_134 rfl hk
                      · refine zv_if_eq (pc := 126) (tg := 133) d_X4_joined_126 (by decide) (fun q => absurd q c30) (fun _ => ?_)
                        refine zv_iconst (pc := 129) d_X4_joined_129 zc_i_1 ?_
                        refine zv_goto (pc := 130) (tg := 134) d_X4_joined_130 (by decide) ?_
                        cases hf
                        exact zx_iret (pc := 134) d_X4_joined_134 rfl hk
                    ·
                      rcases zw_ifE hf with ⟨c31, hf⟩ | ⟨c31, hf⟩
                      · refine zx_tsIn (pc := 1) (tg := 119) (z := 118) d_X4_joined_1 (by rw [c31]; decide +kernel) (by rw [c31]; decide +kernel) (by rw [c31]; decide +kernel) (by decide) ?_
                        refine zv_aload_n (pc := 119) d_X4_joined_119 rfl ?_
                        refine zv_iload_n (pc := 120) d_X4_joined_120 rfl ?_
                        refine zv_iload_n (pc := 121) d_X4_joined_121 rfl ?_
                        refine zv_iload_n (pc := 122) d_X4_joined_122 rfl ?_
                        obtain ⟨g32, hf⟩ := zw_gcE hf (by decide)
                        obtain ⟨q33, hq33, hf⟩ := zw_bdE hf
                        refine zx_callV (pc := 123) (As := [.int v1, .int v2, .int v3]) (o := v0) (st := []) (d2 := 0) (M2 := M_X4_compared) (P2 := (fun r S => r = (some (.int q33.1)) ∧ S = (q33.2, R, J))) d_X4_joined_123 (zw_mG (List.mem_of_getElem? (i := 1011) (by decide +kernel)) rfl) ce_X4_compared (zw_RvK g32 rfl rfl) (Nat.le_of_ble_eq_true rfl) rfl (Nat.le_of_ble_eq_true rfl) (by decide) (c_X4_compared X v0 v1 v2 v3 I R J _ hq33 ⟨rfl, rfl⟩) ?_
                        rintro _ _ ⟨rfl, rfl⟩
                        show zy_V X M_X4_joined 1 P (123 + 3) [.ref v0, .int v1, .int v2, .int v3] [.int q33.1] (q33.2, R, J)
                        rcases zw_ifE hf with ⟨c34, hf⟩ | ⟨c34, hf⟩
                        · refine zv_if_eq (pc := 126) (tg := 133) d_X4_joined_126 (by decide) (fun _ => ?_) (fun q => absurd c34 q)
                          refine zv_iconst (pc := 133) d_X4_joined_133 zc_i_0 ?_
                          cases hf
                          exact zx_iret (pc := 134) d_X4_joined_134 rfl hk
                        · refine zv_if_eq (pc := 126) (tg := 133) d_X4_joined_126 (by decide) (fun q => absurd q c34) (fun _ => ?_)
                          refine zv_iconst (pc := 129) d_X4_joined_129 zc_i_1 ?_
                          refine zv_goto (pc := 130) (tg := 134) d_X4_joined_130 (by decide) ?_
                          cases hf
                          exact zx_iret (pc := 134) d_X4_joined_134 rfl hk
                      ·
                        rcases zw_ifE hf with ⟨c35, hf⟩ | ⟨c35, hf⟩
                        · refine zx_tsIn (pc := 1) (tg := 119) (z := 118) d_X4_joined_1 (by rw [c35]; decide +kernel) (by rw [c35]; decide +kernel) (by rw [c35]; decide +kernel) (by decide) ?_
                          refine zv_aload_n (pc := 119) d_X4_joined_119 rfl ?_
                          refine zv_iload_n (pc := 120) d_X4_joined_120 rfl ?_
                          refine zv_iload_n (pc := 121) d_X4_joined_121 rfl ?_
                          refine zv_iload_n (pc := 122) d_X4_joined_122 rfl ?_
                          obtain ⟨g36, hf⟩ := zw_gcE hf (by decide)
                          obtain ⟨q37, hq37, hf⟩ := zw_bdE hf
                          refine zx_callV (pc := 123) (As := [.int v1, .int v2, .int v3]) (o := v0) (st := []) (d2 := 0) (M2 := M_X4_compared) (P2 := (fun r S => r = (some (.int q37.1)) ∧ S = (q37.2, R, J))) d_X4_joined_123 (zw_mG (List.mem_of_getElem? (i := 1011) (by decide +kernel)) rfl) ce_X4_compared (zw_RvK g36 rfl rfl) (Nat.le_of_ble_eq_true rfl) rfl (Nat.le_of_ble_eq_true rfl) (by decide) (c_X4_compared X v0 v1 v2 v3 I R J _ hq37 ⟨rfl, rfl⟩) ?_
                          rintro _ _ ⟨rfl, rfl⟩
                          show zy_V X M_X4_joined 1 P (123 + 3) [.ref v0, .int v1, .int v2, .int v3] [.int q37.1] (q37.2, R, J)
                          rcases zw_ifE hf with ⟨c38, hf⟩ | ⟨c38, hf⟩
                          · refine zv_if_eq (pc := 126) (tg := 133) d_X4_joined_126 (by decide) (fun _ => ?_) (fun q => absurd c38 q)
                            refine zv_iconst (pc := 133) d_X4_joined_133 zc_i_0 ?_
                            cases hf
                            exact zx_iret (pc := 134) d_X4_joined_134 rfl hk
                          · refine zv_if_eq (pc := 126) (tg := 133) d_X4_joined_126 (by decide) (fun q => absurd q c38) (fun _ => ?_)
                            refine zv_iconst (pc := 129) d_X4_joined_129 zc_i_1 ?_
                            refine zv_goto (pc := 130) (tg := 134) d_X4_joined_130 (by decide) ?_
                            cases hf
                            exact zx_iret (pc := 134) d_X4_joined_134 rfl hk
                        ·
                          rcases zw_ifE hf with ⟨c39, hf⟩ | ⟨c39, hf⟩
                          · refine zx_tsIn (pc := 1) (tg := 119) (z := 118) d_X4_joined_1 (by rw [c39]; decide +kernel) (by rw [c39]; decide +kernel) (by rw [c39]; decide +kernel) (by decide) ?_
                            refine zv_aload_n (pc := 119) d_X4_joined_119 rfl ?_
                            refine zv_iload_n (pc := 120) d_X4_joined_120 rfl ?_
                            refine zv_iload_n (pc := 121) d_X4_joined_121 rfl ?_
                            refine zv_iload_n (pc := 122) d_X4_joined_122 rfl ?_
                            obtain ⟨g40, hf⟩ := zw_gcE hf (by decide)
                            obtain ⟨q41, hq41, hf⟩ := zw_bdE hf
                            refine zx_callV (pc := 123) (As := [.int v1, .int v2, .int v3]) (o := v0) (st := []) (d2 := 0) (M2 := M_X4_compared) (P2 := (fun r S => r = (some (.int q41.1)) ∧ S = (q41.2, R, J))) d_X4_joined_123 (zw_mG (List.mem_of_getElem? (i := 1011) (by decide +kernel)) rfl) ce_X4_compared (zw_RvK g40 rfl rfl) (Nat.le_of_ble_eq_true rfl) rfl (Nat.le_of_ble_eq_true rfl) (by decide) (c_X4_compared X v0 v1 v2 v3 I R J _ hq41 ⟨rfl, rfl⟩) ?_
                            rintro _ _ ⟨rfl, rfl⟩
                            show zy_V X M_X4_joined 1 P (123 + 3) [.ref v0, .int v1, .int v2, .int v3] [.int q41.1] (q41.2, R, J)
                            rcases zw_ifE hf with ⟨c42, hf⟩ | ⟨c42, hf⟩
                            · refine zv_if_eq (pc := 126) (tg := 133) d_X4_joined_126 (by decide) (fun _ => ?_) (fun q => absurd c42 q)
                              refine zv_iconst (pc := 133) d_X4_joined_133 zc_i_0 ?_
                              cases hf
                              exact zx_iret (pc := 134) d_X4_joined_134 rfl hk
                            · refine zv_if_eq (pc := 126) (tg := 133) d_X4_joined_126 (by decide) (fun q => absurd q c42) (fun _ => ?_)
                              refine zv_iconst (pc := 129) d_X4_joined_129 zc_i_1 ?_
                              refine zv_goto (pc := 130) (tg := 134) d_X4_joined_130 (by decide) ?_
                              cases hf
                              exact zx_iret (pc := 134) d_X4_joined_134 rfl hk
                          ·
                            rcases zw_ifE hf with ⟨c43, hf⟩ | ⟨c43, hf⟩
                            · refine zx_tsIn (pc := 1) (tg := 119) (z := 118) d_X4_joined_1 (by rw [c43]; decide +kernel) (by rw [c43]; decide +kernel) (by rw [c43]; decide +kernel) (by decide) ?_
                              refine zv_aload_n (pc := 119) d_X4_joined_119 rfl ?_
                              refine zv_iload_n (pc := 120) d_X4_joined_120 rfl ?_
                              refine zv_iload_n (pc := 121) d_X4_joined_121 rfl ?_
                              refine zv_iload_n (pc := 122) d_X4_joined_122 rfl ?_
                              obtain ⟨g44, hf⟩ := zw_gcE hf (by decide)
                              obtain ⟨q45, hq45, hf⟩ := zw_bdE hf
                              refine zx_callV (pc := 123) (As := [.int v1, .int v2, .int v3]) (o := v0) (st := []) (d2 := 0) (M2 := M_X4_compared) (P2 := (fun r S => r = (some (.int q45.1)) ∧ S = (q45.2, R, J))) d_X4_joined_123 (zw_mG (List.mem_of_getElem? (i := 1011) (by decide +kernel)) rfl) ce_X4_compared (zw_RvK g44 rfl rfl) (Nat.le_of_ble_eq_true rfl) rfl (Nat.le_of_ble_eq_true rfl) (by decide) (c_X4_compared X v0 v1 v2 v3 I R J _ hq45 ⟨rfl, rfl⟩) ?_
                              rintro _ _ ⟨rfl, rfl⟩
                              show zy_V X M_X4_joined 1 P (123 + 3) [.ref v0, .int v1, .int v2, .int v3] [.int q45.1] (q45.2, R, J)
                              rcases zw_ifE hf with ⟨c46, hf⟩ | ⟨c46, hf⟩
                              · refine zv_if_eq (pc := 126) (tg := 133) d_X4_joined_126 (by decide) (fun _ => ?_) (fun q => absurd c46 q)
                                refine zv_iconst (pc := 133) d_X4_joined_133 zc_i_0 ?_
                                cases hf
                                exact zx_iret (pc := 134) d_X4_joined_134 rfl hk
                              · refine zv_if_eq (pc := 126) (tg := 133) d_X4_joined_126 (by decide) (fun q => absurd q c46) (fun _ => ?_)
                                refine zv_iconst (pc := 129) d_X4_joined_129 zc_i_1 ?_
                                refine zv_goto (pc := 130) (tg := 134) d_X4_joined_130 (by decide) ?_
                                cases hf
                                exact zx_iret (pc := 134) d_X4_joined_134 rfl hk
                            ·
                              rcases zw_ifE hf with ⟨c47, hf⟩ | ⟨c47, hf⟩
                              · refine zx_tsIn (pc := 1) (tg := 119) (z := 118) d_X4_joined_1 (by rw [c47]; decide +kernel) (by rw [c47]; decide +kernel) (by rw [c47]; decide +kernel) (by decide) ?_
                                refine zv_aload_n (pc := 119) d_X4_joined_119 rfl ?_
                                refine zv_iload_n (pc := 120) d_X4_joined_120 rfl ?_
                                refine zv_iload_n (pc := 121) d_X4_joined_121 rfl ?_
                                refine zv_iload_n (pc := 122) d_X4_joined_122 rfl ?_
                                obtain ⟨g48, hf⟩ := zw_gcE hf (by decide)
                                obtain ⟨q49, hq49, hf⟩ := zw_bdE hf
                                refine zx_callV (pc := 123) (As := [.int v1, .int v2, .int v3]) (o := v0) (st := []) (d2 := 0) (M2 := M_X4_compared) (P2 := (fun r S => r = (some (.int q49.1)) ∧ S = (q49.2, R, J))) d_X4_joined_123 (zw_mG (List.mem_of_getElem? (i := 1011) (by decide +kernel)) rfl) ce_X4_compared (zw_RvK g48 rfl rfl) (Nat.le_of_ble_eq_true rfl) rfl (Nat.le_of_ble_eq_true rfl) (by decide) (c_X4_compared X v0 v1 v2 v3 I R J _ hq49 ⟨rfl, rfl⟩) ?_
                                rintro _ _ ⟨rfl, rfl⟩
                                show zy_V X M_X4_joined 1 P (123 + 3) [.ref v0, .int v1, .int v2, .int v3] [.int q49.1] (q49.2, R, J)
                                rcases zw_ifE hf with ⟨c50, hf⟩ | ⟨c50, hf⟩
                                · refine zv_if_eq (pc := 126) (tg := 133) d_X4_joined_126 (by decide) (fun _ => ?_) (fun q => absurd c50 q)
                                  refine zv_iconst (pc := 133) d_X4_joined_133 zc_i_0 ?_
                                  cases hf
                                  exact zx_iret (pc := 134) d_X4_joined_134 rfl hk
                                · refine zv_if_eq (pc := 126) (tg := 133) d_X4_joined_126 (by decide) (fun q => absurd q c50) (fun _ => ?_)
                                  refine zv_iconst (pc := 129) d_X4_joined_129 zc_i_1 ?_
                                  refine zv_goto (pc := 130) (tg := 134) d_X4_joined_130 (by decide) ?_
                                  cases hf
                                  exact zx_iret (pc := 134) d_X4_joined_134 rfl hk
                              ·
                                rcases zw_ifE hf with ⟨c51, hf⟩ | ⟨c51, hf⟩
                                · refine zx_tsIn (pc := 1) (tg := 119) (z := 118) d_X4_joined_1 (by rw [c51]; decide +kernel) (by rw [c51]; decide +kernel) (by rw [c51]; decide +kernel) (by decide) ?_
                                  refine zv_aload_n (pc := 119) d_X4_joined_119 rfl ?_
                                  refine zv_iload_n (pc := 120) d_X4_joined_120 rfl ?_
                                  refine zv_iload_n (pc := 121) d_X4_joined_121 rfl ?_
                                  refine zv_iload_n (pc := 122) d_X4_joined_122 rfl ?_
                                  obtain ⟨g52, hf⟩ := zw_gcE hf (by decide)
                                  obtain ⟨q53, hq53, hf⟩ := zw_bdE hf
                                  refine zx_callV (pc := 123) (As := [.int v1, .int v2, .int v3]) (o := v0) (st := []) (d2 := 0) (M2 := M_X4_compared) (P2 := (fun r S => r = (some (.int q53.1)) ∧ S = (q53.2, R, J))) d_X4_joined_123 (zw_mG (List.mem_of_getElem? (i := 1011) (by decide +kernel)) rfl) ce_X4_compared (zw_RvK g52 rfl rfl) (Nat.le_of_ble_eq_true rfl) rfl (Nat.le_of_ble_eq_true rfl) (by decide) (c_X4_compared X v0 v1 v2 v3 I R J _ hq53 ⟨rfl, rfl⟩) ?_
                                  rintro _ _ ⟨rfl, rfl⟩
                                  show zy_V X M_X4_joined 1 P (123 + 3) [.ref v0, .int v1, .int v2, .int v3] [.int q53.1] (q53.2, R, J)
                                  rcases zw_ifE hf with ⟨c54, hf⟩ | ⟨c54, hf⟩
                                  · refine zv_if_eq (pc := 126) (tg := 133) d_X4_joined_126 (by decide) (fun _ => ?_) (fun q => absurd c54 q)
                                    refine zv_iconst (pc := 133) d_X4_joined_133 zc_i_0 ?_
                                    cases hf
                                    exact zx_iret (pc := 134) d_X4_joined_134 rfl hk
                                  · refine zv_if_eq (pc := 126) (tg := 133) d_X4_joined_126 (by decide) (fun q => absurd q c54) (fun _ => ?_)
                                    refine zv_iconst (pc := 129) d_X4_joined_129 zc_i_1 ?_
                                    refine zv_goto (pc := 130) (tg := 134) d_X4_joined_130 (by decide) ?_
                                    cases hf
                                    exact zx_iret (pc := 134) d_X4_joined_134 rfl hk
                                ·
                                  rcases zw_ifE hf with ⟨c55, hf⟩ | ⟨c55, hf⟩
                                  · refine zx_tsIn (pc := 1) (tg := 119) (z := 118) d_X4_joined_1 (by rw [c55]; decide +kernel) (by rw [c55]; decide +kernel) (by rw [c55]; decide +kernel) (by decide) ?_
                                    refine zv_aload_n (pc := 119) d_X4_joined_119 rfl ?_
                                    refine zv_iload_n (pc := 120) d_X4_joined_120 rfl ?_
                                    refine zv_iload_n (pc := 121) d_X4_joined_121 rfl ?_
                                    refine zv_iload_n (pc := 122) d_X4_joined_122 rfl ?_
                                    obtain ⟨g56, hf⟩ := zw_gcE hf (by decide)
                                    obtain ⟨q57, hq57, hf⟩ := zw_bdE hf
                                    refine zx_callV (pc := 123) (As := [.int v1, .int v2, .int v3]) (o := v0) (st := []) (d2 := 0) (M2 := M_X4_compared) (P2 := (fun r S => r = (some (.int q57.1)) ∧ S = (q57.2, R, J))) d_X4_joined_123 (zw_mG (List.mem_of_getElem? (i := 1011) (by decide +kernel)) rfl) ce_X4_compared (zw_RvK g56 rfl rfl) (Nat.le_of_ble_eq_true rfl) rfl (Nat.le_of_ble_eq_true rfl) (by decide) (c_X4_compared X v0 v1 v2 v3 I R J _ hq57 ⟨rfl, rfl⟩) ?_
                                    rintro _ _ ⟨rfl, rfl⟩
                                    show zy_V X M_X4_joined 1 P (123 + 3) [.ref v0, .int v1, .int v2, .int v3] [.int q57.1] (q57.2, R, J)
                                    rcases zw_ifE hf with ⟨c58, hf⟩ | ⟨c58, hf⟩
                                    · refine zv_if_eq (pc := 126) (tg := 133) d_X4_joined_126 (by decide) (fun _ => ?_) (fun q => absurd c58 q)
                                      refine zv_iconst (pc := 133) d_X4_joined_133 zc_i_0 ?_
                                      cases hf
                                      exact zx_iret (pc := 134) d_X4_joined_134 rfl hk
                                    · refine zv_if_eq (pc := 126) (tg := 133) d_X4_joined_126 (by decide) (fun q => absurd q c58) (fun _ => ?_)
                                      refine zv_iconst (pc := 129) d_X4_joined_129 zc_i_1 ?_
                                      refine zv_goto (pc := 130) (tg := 134) d_X4_joined_130 (by decide) ?_
                                      cases hf
                                      exact zx_iret (pc := 134) d_X4_joined_134 rfl hk
                                  ·
                                    rcases zw_ifE hf with ⟨c59, hf⟩ | ⟨c59, hf⟩
                                    · refine zx_tsIn (pc := 1) (tg := 115) (z := 114) d_X4_joined_1 (by rw [c59]; decide +kernel) (by rw [c59]; decide +kernel) (by rw [c59]; decide +kernel) (by decide) ?_
                                      refine zv_iload_n (pc := 115) d_X4_joined_115 rfl ?_
                                      refine zv_iload_n (pc := 116) d_X4_joined_116 rfl ?_
                                      refine zv_ior (pc := 117) d_X4_joined_117 ?_
                                      cases hf
                                      exact zx_iret (pc := 118) d_X4_joined_118 rfl hk
                                    ·
                                      rcases zw_ifE hf with ⟨c60, hf⟩ | ⟨c60, hf⟩
                                      · refine zx_tsIn (pc := 1) (tg := 111) (z := 110) d_X4_joined_1 (by rw [c60]; decide +kernel) (by rw [c60]; decide +kernel) (by rw [c60]; decide +kernel) (by decide) ?_
                                        refine zv_iload_n (pc := 111) d_X4_joined_111 rfl ?_
                                        refine zv_iload_n (pc := 112) d_X4_joined_112 rfl ?_
                                        refine zv_iand (pc := 113) d_X4_joined_113 ?_
                                        cases hf
                                        exact zx_iret (pc := 114) d_X4_joined_114 rfl hk
                                      ·
                                        refine zx_tsOut (pc := 1) (tg := 119) d_X4_joined_1 (by have c1 := zw_neI c1 (z := 8) (by decide +kernel); have c2 := zw_neI c2 (z := 9) (by decide +kernel); have c3 := zw_neI c3 (z := 10) (by decide +kernel); have c4 := zw_neI c4 (z := 11) (by decide +kernel); have c7 := zw_neI c7 (z := 12) (by decide +kernel); have c11 := zw_neI c11 (z := 13) (by decide +kernel); have c15 := zw_neI c15 (z := 14) (by decide +kernel); have c19 := zw_neI c19 (z := 15) (by decide +kernel); have c23 := zw_neI c23 (z := 16) (by decide +kernel); have c27 := zw_neI c27 (z := 17) (by decide +kernel); have c31 := zw_neI c31 (z := 18) (by decide +kernel); have c35 := zw_neI c35 (z := 19) (by decide +kernel); have c39 := zw_neI c39 (z := 20) (by decide +kernel); have c43 := zw_neI c43 (z := 21) (by decide +kernel); have c47 := zw_neI c47 (z := 22) (by decide +kernel); have c51 := zw_neI c51 (z := 23) (by decide +kernel); have c55 := zw_neI c55 (z := 24) (by decide +kernel); have c59 := zw_neI c59 (z := 25) (by decide +kernel); have c60 := zw_neI c60 (z := 26) (by decide +kernel); omega) (by decide) ?_
                                        refine zv_aload_n (pc := 119) d_X4_joined_119 rfl ?_
                                        refine zv_iload_n (pc := 120) d_X4_joined_120 rfl ?_
                                        refine zv_iload_n (pc := 121) d_X4_joined_121 rfl ?_
                                        refine zv_iload_n (pc := 122) d_X4_joined_122 rfl ?_
                                        obtain ⟨g61, hf⟩ := zw_gcE hf (by decide)
                                        obtain ⟨q62, hq62, hf⟩ := zw_bdE hf
                                        refine zx_callV (pc := 123) (As := [.int v1, .int v2, .int v3]) (o := v0) (st := []) (d2 := 0) (M2 := M_X4_compared) (P2 := (fun r S => r = (some (.int q62.1)) ∧ S = (q62.2, R, J))) d_X4_joined_123 (zw_mG (List.mem_of_getElem? (i := 1011) (by decide +kernel)) rfl) ce_X4_compared (zw_RvK g61 rfl rfl) (Nat.le_of_ble_eq_true rfl) rfl (Nat.le_of_ble_eq_true rfl) (by decide) (c_X4_compared X v0 v1 v2 v3 I R J _ hq62 ⟨rfl, rfl⟩) ?_
                                        rintro _ _ ⟨rfl, rfl⟩
                                        show zy_V X M_X4_joined 1 P (123 + 3) [.ref v0, .int v1, .int v2, .int v3] [.int q62.1] (q62.2, R, J)
                                        rcases zw_ifE hf with ⟨c63, hf⟩ | ⟨c63, hf⟩
                                        · refine zv_if_eq (pc := 126) (tg := 133) d_X4_joined_126 (by decide) (fun _ => ?_) (fun q => absurd c63 q)
                                          refine zv_iconst (pc := 133) d_X4_joined_133 zc_i_0 ?_
                                          cases hf
                                          exact zx_iret (pc := 134) d_X4_joined_134 rfl hk
                                        · refine zv_if_eq (pc := 126) (tg := 133) d_X4_joined_126 (by decide) (fun q => absurd q c63) (fun _ => ?_)
                                          refine zv_iconst (pc := 129) d_X4_joined_129 zc_i_1 ?_
                                          refine zv_goto (pc := 130) (tg := 134) d_X4_joined_130 (by decide) ?_
                                          cases hf
                                          exact zx_iret (pc := 134) d_X4_joined_134 rfl hk
abbrev M_X6_darkColumns : zw_M := (⟨"CutStones$Shine", "darkColumns", "(LCutStones$Drawing;)I"⟩, prog_8_method_6_code, 5, (Option.some Jvm.ClassFile.FieldType.int))
theorem d_X6_darkColumns_0 : decode M_X6_darkColumns.2.1 0 = .ok (.iconst 0, 1) := by decide +kernel
theorem d_X6_darkColumns_1 : decode M_X6_darkColumns.2.1 1 = .ok (.istore_n 2, 1) := by decide +kernel
theorem d_X6_darkColumns_2 : decode M_X6_darkColumns.2.1 2 = .ok (.iconst 0, 1) := by decide +kernel
theorem d_X6_darkColumns_3 : decode M_X6_darkColumns.2.1 3 = .ok (.istore_n 3, 1) := by decide +kernel
theorem d_X6_darkColumns_4 : decode M_X6_darkColumns.2.1 4 = .ok (.iload_n 3, 1) := by decide +kernel
theorem d_X6_darkColumns_5 : decode M_X6_darkColumns.2.1 5 = .ok (.aload_n 0, 1) := by decide +kernel
theorem d_X6_darkColumns_6 : decode M_X6_darkColumns.2.1 6 = .ok (.getfield 22, 3) := by decide +kernel
theorem d_X6_darkColumns_9 : decode M_X6_darkColumns.2.1 9 = .ok (.if_icmp .ge 23, 3) := by decide +kernel
theorem d_X6_darkColumns_12 : decode M_X6_darkColumns.2.1 12 = .ok (.iload_n 2, 1) := by decide +kernel
theorem d_X6_darkColumns_13 : decode M_X6_darkColumns.2.1 13 = .ok (.aload_n 0, 1) := by decide +kernel
theorem d_X6_darkColumns_14 : decode M_X6_darkColumns.2.1 14 = .ok (.getfield 18, 3) := by decide +kernel
theorem d_X6_darkColumns_17 : decode M_X6_darkColumns.2.1 17 = .ok (.getfield 78, 3) := by decide +kernel
theorem d_X6_darkColumns_20 : decode M_X6_darkColumns.2.1 20 = .ok (.iload_n 3, 1) := by decide +kernel
theorem d_X6_darkColumns_21 : decode M_X6_darkColumns.2.1 21 = .ok (.iaload, 1) := by decide +kernel
theorem d_X6_darkColumns_22 : decode M_X6_darkColumns.2.1 22 = .ok (.invokestatic 81, 3) := by decide +kernel
theorem d_X6_darkColumns_25 : decode M_X6_darkColumns.2.1 25 = .ok (.istore_n 2, 1) := by decide +kernel
theorem d_X6_darkColumns_26 : decode M_X6_darkColumns.2.1 26 = .ok (.iinc 3 1, 3) := by decide +kernel
theorem d_X6_darkColumns_29 : decode M_X6_darkColumns.2.1 29 = .ok (.goto (-25), 3) := by decide +kernel
theorem d_X6_darkColumns_32 : decode M_X6_darkColumns.2.1 32 = .ok (.iconst 0, 1) := by decide +kernel
theorem d_X6_darkColumns_33 : decode M_X6_darkColumns.2.1 33 = .ok (.istore_n 3, 1) := by decide +kernel
theorem d_X6_darkColumns_34 : decode M_X6_darkColumns.2.1 34 = .ok (.iconst 0, 1) := by decide +kernel
theorem d_X6_darkColumns_35 : decode M_X6_darkColumns.2.1 35 = .ok (.istore 4, 2) := by decide +kernel
theorem d_X6_darkColumns_37 : decode M_X6_darkColumns.2.1 37 = .ok (.iload 4, 2) := by decide +kernel
theorem d_X6_darkColumns_39 : decode M_X6_darkColumns.2.1 39 = .ok (.aload_n 0, 1) := by decide +kernel
theorem d_X6_darkColumns_40 : decode M_X6_darkColumns.2.1 40 = .ok (.getfield 22, 3) := by decide +kernel
theorem d_X6_darkColumns_43 : decode M_X6_darkColumns.2.1 43 = .ok (.if_icmp .ge 41, 3) := by decide +kernel
theorem d_X6_darkColumns_46 : decode M_X6_darkColumns.2.1 46 = .ok (.aload_n 0, 1) := by decide +kernel
theorem d_X6_darkColumns_47 : decode M_X6_darkColumns.2.1 47 = .ok (.getfield 18, 3) := by decide +kernel
theorem d_X6_darkColumns_50 : decode M_X6_darkColumns.2.1 50 = .ok (.getfield 78, 3) := by decide +kernel
theorem d_X6_darkColumns_53 : decode M_X6_darkColumns.2.1 53 = .ok (.iload 4, 2) := by decide +kernel
theorem d_X6_darkColumns_55 : decode M_X6_darkColumns.2.1 55 = .ok (.iaload, 1) := by decide +kernel
theorem d_X6_darkColumns_56 : decode M_X6_darkColumns.2.1 56 = .ok (.bipush 10, 2) := by decide +kernel
theorem d_X6_darkColumns_58 : decode M_X6_darkColumns.2.1 58 = .ok (.imul, 1) := by decide +kernel
theorem d_X6_darkColumns_59 : decode M_X6_darkColumns.2.1 59 = .ok (.iload_n 2, 1) := by decide +kernel
theorem d_X6_darkColumns_60 : decode M_X6_darkColumns.2.1 60 = .ok (.if_icmp .ge 18, 3) := by decide +kernel
theorem d_X6_darkColumns_63 : decode M_X6_darkColumns.2.1 63 = .ok (.aload_n 1, 1) := by decide +kernel
theorem d_X6_darkColumns_64 : decode M_X6_darkColumns.2.1 64 = .ok (.getfield 87, 3) := by decide +kernel
theorem d_X6_darkColumns_67 : decode M_X6_darkColumns.2.1 67 = .ok (.iload 4, 2) := by decide +kernel
theorem d_X6_darkColumns_69 : decode M_X6_darkColumns.2.1 69 = .ok (.invokestatic 90, 3) := by decide +kernel
theorem d_X6_darkColumns_72 : decode M_X6_darkColumns.2.1 72 = .ok (.ifCond .eq 6, 3) := by decide +kernel
theorem d_X6_darkColumns_75 : decode M_X6_darkColumns.2.1 75 = .ok (.iinc 3 1, 3) := by decide +kernel
theorem d_X6_darkColumns_78 : decode M_X6_darkColumns.2.1 78 = .ok (.iinc 4 1, 3) := by decide +kernel
theorem d_X6_darkColumns_81 : decode M_X6_darkColumns.2.1 81 = .ok (.goto (-44), 3) := by decide +kernel
theorem d_X6_darkColumns_84 : decode M_X6_darkColumns.2.1 84 = .ok (.iload_n 3, 1) := by decide +kernel
theorem d_X6_darkColumns_85 : decode M_X6_darkColumns.2.1 85 = .ok (.ireturn, 1) := by decide +kernel
theorem ce_X6_darkColumns : zw_CeV M_X6_darkColumns 1 := ⟨⟨⟨by decide +kernel, by decide +kernel, by decide +kernel⟩, (zw_mG (List.mem_of_getElem? (i := 954) (by decide +kernel)) rfl), (zw_mG (List.mem_of_getElem? (i := 104) (by decide +kernel)) rfl), by decide, by decide +kernel⟩, (zw_mG (List.mem_of_getElem? (i := 953) (by decide +kernel)) rfl), (zw_mG (List.mem_of_getElem? (i := 32) (by decide +kernel)) rfl)⟩
def s_X6_darkColumns_4 (v0 : Nat) (v1 : Nat) (I : zI) (R : zR) (s : Int32 × Int32) : Option ((Int32 × Int32) ⊕ (Int32)) :=
  zw_g (zw_gc v0 6) (if (I v0 2) ≤ s.2 then some (.inr s.1) else zw_g (zw_gc (R v0 1) 2) (zw_g (zw_gc (R (R v0 1) 3) 13) (zw_g (zw_in s.2 (zw_SH (R (R v0 1) 3)).2) (zw_let ((if s.1 < (I (R (R v0 1) 3) (Int32.toNatClampNeg s.2)) then (I (R (R v0 1) 3) (Int32.toNatClampNeg s.2)) else s.1) : Int32) fun x6 => (zw_let (s.2 + 1 : Int32) fun x7 => (some (.inl (x6, x7))))))))
theorem s_X6_darkColumns_4_ok (X : zw_X) (P : Option Value → aS → Prop) (v0 : Nat) (v1 : Nat) (I : zI) (R : zR) (J : zJ) (s : Int32 × Int32) (o : (Int32 × Int32) ⊕ (Int32)) (hf : s_X6_darkColumns_4 v0 v1 I R s = some o) (hk : (zw_se (fun t => zy_V X M_X6_darkColumns 1 P 4 [.ref v0, .ref v1, .int t.1, .int t.2, .null] [] (I, R, J)) (fun r => zy_V X M_X6_darkColumns 1 P 32 [.ref v0, .ref v1, .int r, .null, .null] [] (I, R, J)) o)) : zy_V X M_X6_darkColumns 1 P 4 [.ref v0, .ref v1, .int s.1, .int s.2, .null] [] (I, R, J) := by
  unfold s_X6_darkColumns_4 at hf
  refine zv_iload_n (pc := 4) d_X6_darkColumns_4 rfl ?_
  refine zv_aload_n (pc := 5) d_X6_darkColumns_5 rfl ?_
  obtain ⟨g1, hf⟩ := zw_gcE hf (by decide)
  refine zx_getI (pc := 6) d_X6_darkColumns_6 lk_CutStones_Shine_22 (by decide) g1 ?_
  rcases zw_ifE hf with ⟨c2, hf⟩ | ⟨c2, hf⟩
  · refine zv_icmp_ge (pc := 9) (tg := 32) d_X6_darkColumns_9 (by decide) (fun _ => ?_) (fun q => absurd c2 q)
    cases hf
    exact zx_weak (zw_leS (zw_leS (zw_leS (zw_leN (zw_leN zw_leZ))))) hk
  · refine zv_icmp_ge (pc := 9) (tg := 32) d_X6_darkColumns_9 (by decide) (fun q => absurd q c2) (fun _ => ?_)
    refine zv_iload_n (pc := 12) d_X6_darkColumns_12 rfl ?_
    refine zv_aload_n (pc := 13) d_X6_darkColumns_13 rfl ?_
    obtain ⟨g3, hf⟩ := zw_gcE hf (by decide)
    refine zx_getR (pc := 14) d_X6_darkColumns_14 lk_CutStones_Shine_18 (by decide) g1 g3 ?_
    obtain ⟨g4, hf⟩ := zw_gcE hf (by decide)
    refine zx_getR (pc := 17) d_X6_darkColumns_17 lk_CutStones_Shine_78 (by decide) g3 g4 ?_
    refine zv_iload_n (pc := 20) d_X6_darkColumns_20 rfl ?_
    obtain ⟨i5, hf⟩ := zw_inE hf
    refine zx_iald (pc := 21) d_X6_darkColumns_21 g4 i5 ?_
    refine zv_max (pc := 22) d_X6_darkColumns_22 (zw_mG (List.mem_of_getElem? (i := 955) (by decide +kernel)) rfl) (by decide) (Nat.le_of_ble_eq_true rfl) ⟨Nat.le_refl _, Nat.le_refl _⟩ ?_
    obtain ⟨x6, ex6, hf⟩ := zw_letE hf
    rw [← ex6]
    refine zx_istore_n (pc := 25) (x2 := x6) (L2 := [.ref v0, .ref v1, .int x6, .int s.2, .null]) d_X6_darkColumns_25 (by decide) rfl rfl ?_
    obtain ⟨x7, ex7, hf⟩ := zw_letE hf
    refine zx_iinc (pc := 26) (x2 := x7) (L2 := [.ref v0, .ref v1, .int x6, .int x7, .null]) d_X6_darkColumns_26 (by decide) rfl zc_i_1 ex7 rfl ?_
    refine zv_goto (pc := 29) (tg := 4) d_X6_darkColumns_29 (by decide) ?_
    cases hf
    exact zx_weak (zw_leS (zw_leS (zw_leS (zw_leS (zw_leN zw_leZ))))) hk
theorem s_X6_darkColumns_4_lp (X : zw_X) (P : Option Value → aS → Prop) (v0 : Nat) (v1 : Nat) (I : zI) (R : zR) (J : zJ) (n : Nat) (s : Int32 × Int32) (r : Int32) (h : zw_it (s_X6_darkColumns_4 v0 v1 I R) n s = some r) (hq : zy_V X M_X6_darkColumns 1 P 32 [.ref v0, .ref v1, .int r, .null, .null] [] (I, R, J)) : zy_V X M_X6_darkColumns 1 P 4 [.ref v0, .ref v1, .int s.1, .int s.2, .null] [] (I, R, J) :=
  zw_itE (A := (fun t : Int32 × Int32 => zy_V X M_X6_darkColumns 1 P 4 [.ref v0, .ref v1, .int t.1, .int t.2, .null] [] (I, R, J))) (Q := (fun r : Int32 => zy_V X M_X6_darkColumns 1 P 32 [.ref v0, .ref v1, .int r, .null, .null] [] (I, R, J))) (fun s o h1 h2 => s_X6_darkColumns_4_ok X P v0 v1 I R J s o h1 h2) n s r h hq
def j_X6_darkColumns_78_37 (v0 : Nat) (v1 : Nat) (v2 : Int32) (v3 : Int32) (v4 : Int32) (I : zI) (R : zR) : Option ((Int32 × Int32) ⊕ (Int32)) :=
  zw_let (v4 + 1 : Int32) fun x15 => (some (.inl (v3, x15)))
theorem j_X6_darkColumns_78_37_ok (X : zw_X) (P : Option Value → aS → Prop) (v0 : Nat) (v1 : Nat) (v2 : Int32) (v3 : Int32) (v4 : Int32) (I : zI) (R : zR) (J : zJ) (o : (Int32 × Int32) ⊕ (Int32)) (hf : j_X6_darkColumns_78_37 v0 v1 v2 v3 v4 I R = some o) (hk : (zw_se (fun t => zy_V X M_X6_darkColumns 1 P 37 [.ref v0, .ref v1, .int v2, .int t.1, .int t.2] [] (I, R, J)) (fun r => zy_V X M_X6_darkColumns 1 P 84 [.null, .null, .null, .int r, .null] [] (I, R, J)) o)) : zy_V X M_X6_darkColumns 1 P 78 [.ref v0, .ref v1, .int v2, .int v3, .int v4] [] (I, R, J) := by
  unfold j_X6_darkColumns_78_37 at hf
  obtain ⟨x15, ex15, hf⟩ := zw_letE hf
  refine zx_iinc (pc := 78) (x2 := x15) (L2 := [.ref v0, .ref v1, .int v2, .int v3, .int x15]) d_X6_darkColumns_78 (by decide) rfl zc_i_1 ex15 rfl ?_
  refine zv_goto (pc := 81) (tg := 37) d_X6_darkColumns_81 (by decide) ?_
  cases hf
  exact zx_weak (zw_leS (zw_leS (zw_leS (zw_leS (zw_leS zw_leZ))))) hk
def s_X6_darkColumns_37 (v0 : Nat) (v1 : Nat) (v2 : Int32) (I : zI) (R : zR) (s : Int32 × Int32) : Option ((Int32 × Int32) ⊕ (Int32)) :=
  zw_g (zw_gc v0 6) (if (I v0 2) ≤ s.2 then some (.inr s.1) else zw_g (zw_gc (R v0 1) 2) (zw_g (zw_gc (R (R v0 1) 3) 13) (zw_g (zw_in s.2 (zw_SH (R (R v0 1) 3)).2) (if v2 ≤ ((I (R (R v0 1) 3) (Int32.toNatClampNeg s.2)) * 10) then j_X6_darkColumns_78_37 v0 v1 v2 s.1 s.2 I R else zw_g (zw_gc v1 0) ((f_X10_isTold (I v1 4) s.2).bind fun q17 => (if q17 = 0 then j_X6_darkColumns_78_37 v0 v1 v2 s.1 s.2 I R else zw_let (s.1 + 1 : Int32) fun x19 => (j_X6_darkColumns_78_37 v0 v1 v2 x19 s.2 I R)))))))
theorem s_X6_darkColumns_37_ok (X : zw_X) (P : Option Value → aS → Prop) (v0 : Nat) (v1 : Nat) (v2 : Int32) (I : zI) (R : zR) (J : zJ) (s : Int32 × Int32) (o : (Int32 × Int32) ⊕ (Int32)) (hf : s_X6_darkColumns_37 v0 v1 v2 I R s = some o) (hk : (zw_se (fun t => zy_V X M_X6_darkColumns 1 P 37 [.ref v0, .ref v1, .int v2, .int t.1, .int t.2] [] (I, R, J)) (fun r => zy_V X M_X6_darkColumns 1 P 84 [.null, .null, .null, .int r, .null] [] (I, R, J)) o)) : zy_V X M_X6_darkColumns 1 P 37 [.ref v0, .ref v1, .int v2, .int s.1, .int s.2] [] (I, R, J) := by
  unfold s_X6_darkColumns_37 at hf
  refine zv_iload (pc := 37) d_X6_darkColumns_37 rfl ?_
  refine zv_aload_n (pc := 39) d_X6_darkColumns_39 rfl ?_
  obtain ⟨g9, hf⟩ := zw_gcE hf (by decide)
  refine zx_getI (pc := 40) d_X6_darkColumns_40 lk_CutStones_Shine_22 (by decide) g9 ?_
  rcases zw_ifE hf with ⟨c10, hf⟩ | ⟨c10, hf⟩
  · refine zv_icmp_ge (pc := 43) (tg := 84) d_X6_darkColumns_43 (by decide) (fun _ => ?_) (fun q => absurd c10 q)
    cases hf
    exact zx_weak (zw_leN (zw_leN (zw_leN (zw_leS (zw_leN zw_leZ))))) hk
  · refine zv_icmp_ge (pc := 43) (tg := 84) d_X6_darkColumns_43 (by decide) (fun q => absurd q c10) (fun _ => ?_)
    refine zv_aload_n (pc := 46) d_X6_darkColumns_46 rfl ?_
    obtain ⟨g11, hf⟩ := zw_gcE hf (by decide)
    refine zx_getR (pc := 47) d_X6_darkColumns_47 lk_CutStones_Shine_18 (by decide) g9 g11 ?_
    obtain ⟨g12, hf⟩ := zw_gcE hf (by decide)
    refine zx_getR (pc := 50) d_X6_darkColumns_50 lk_CutStones_Shine_78 (by decide) g11 g12 ?_
    refine zv_iload (pc := 53) d_X6_darkColumns_53 rfl ?_
    obtain ⟨i13, hf⟩ := zw_inE hf
    refine zx_iald (pc := 55) d_X6_darkColumns_55 g12 i13 ?_
    refine zv_bipush (pc := 56) d_X6_darkColumns_56 zc_b_10 ?_
    refine zv_imul (pc := 58) d_X6_darkColumns_58 ?_
    refine zv_iload_n (pc := 59) d_X6_darkColumns_59 rfl ?_
    rcases zw_ifE hf with ⟨c14, hf⟩ | ⟨c14, hf⟩
    · refine zv_icmp_ge (pc := 60) (tg := 78) d_X6_darkColumns_60 (by decide) (fun _ => ?_) (fun q => absurd c14 q)
      exact zx_weak (zw_leS (zw_leS (zw_leS (zw_leS (zw_leS zw_leZ))))) (j_X6_darkColumns_78_37_ok X P v0 v1 v2 s.1 s.2 I R J _ hf hk)
    · refine zv_icmp_ge (pc := 60) (tg := 78) d_X6_darkColumns_60 (by decide) (fun q => absurd q c14) (fun _ => ?_)
      refine zv_aload_n (pc := 63) d_X6_darkColumns_63 rfl ?_
      obtain ⟨g16, hf⟩ := zw_gcE hf (by decide)
      refine zx_getI (pc := 64) d_X6_darkColumns_64 lk_CutStones_Shine_87 (by decide) g16 ?_
      refine zv_iload (pc := 67) d_X6_darkColumns_67 rfl ?_
      obtain ⟨q17, hq17, hf⟩ := zw_bdE hf
      refine zx_callSN (pc := 69) (As := [.int (I v1 4), .int s.2]) (st := []) (d2 := 0) (M2 := M_X10_isTold) (P2 := (fun r S => r = (some (.int q17)) ∧ S = (I, R, J))) d_X6_darkColumns_69 (by decide +kernel) ce_X10_isTold (Nat.le_of_ble_eq_true rfl) rfl (Nat.le_of_ble_eq_true rfl) (by decide) (c_X10_isTold X (I v1 4) s.2 I R J _ hq17 ⟨rfl, rfl⟩) ?_
      rintro _ _ ⟨rfl, rfl⟩
      show zy_V X M_X6_darkColumns 1 P (69 + 3) [.ref v0, .ref v1, .int v2, .int s.1, .int s.2] [.int q17] (I, R, J)
      rcases zw_ifE hf with ⟨c18, hf⟩ | ⟨c18, hf⟩
      · refine zv_if_eq (pc := 72) (tg := 78) d_X6_darkColumns_72 (by decide) (fun _ => ?_) (fun q => absurd c18 q)
        exact zx_weak (zw_leS (zw_leS (zw_leS (zw_leS (zw_leS zw_leZ))))) (j_X6_darkColumns_78_37_ok X P v0 v1 v2 s.1 s.2 I R J _ hf hk)
      · refine zv_if_eq (pc := 72) (tg := 78) d_X6_darkColumns_72 (by decide) (fun q => absurd q c18) (fun _ => ?_)
        obtain ⟨x19, ex19, hf⟩ := zw_letE hf
        refine zx_iinc (pc := 75) (x2 := x19) (L2 := [.ref v0, .ref v1, .int v2, .int x19, .int s.2]) d_X6_darkColumns_75 (by decide) rfl zc_i_1 ex19 rfl ?_
        exact zx_weak (zw_leS (zw_leS (zw_leS (zw_leS (zw_leS zw_leZ))))) (j_X6_darkColumns_78_37_ok X P v0 v1 v2 x19 s.2 I R J _ hf hk)
theorem s_X6_darkColumns_37_lp (X : zw_X) (P : Option Value → aS → Prop) (v0 : Nat) (v1 : Nat) (v2 : Int32) (I : zI) (R : zR) (J : zJ) (n : Nat) (s : Int32 × Int32) (r : Int32) (h : zw_it (s_X6_darkColumns_37 v0 v1 v2 I R) n s = some r) (hq : zy_V X M_X6_darkColumns 1 P 84 [.null, .null, .null, .int r, .null] [] (I, R, J)) : zy_V X M_X6_darkColumns 1 P 37 [.ref v0, .ref v1, .int v2, .int s.1, .int s.2] [] (I, R, J) :=
  zw_itE (A := (fun t : Int32 × Int32 => zy_V X M_X6_darkColumns 1 P 37 [.ref v0, .ref v1, .int v2, .int t.1, .int t.2] [] (I, R, J))) (Q := (fun r : Int32 => zy_V X M_X6_darkColumns 1 P 84 [.null, .null, .null, .int r, .null] [] (I, R, J))) (fun s o h1 h2 => s_X6_darkColumns_37_ok X P v0 v1 v2 I R J s o h1 h2) n s r h hq
def f_X6_darkColumns (v0 : Nat) (v1 : Nat) (I : zI) (R : zR) : Option (Int32) :=
  (zw_it (s_X6_darkColumns_4 v0 v1 I R) 1000000 (0, 0)).bind fun q8 => ((zw_it (s_X6_darkColumns_37 v0 v1 q8 I R) 1000000 (0, 0)).bind fun q20 => (some q20))
theorem c_X6_darkColumns (X : zw_X) (v0 : Nat) (v1 : Nat) (I : zI) (R : zR) (J : zJ) {P : Option Value → aS → Prop} (o : Int32) (hf : f_X6_darkColumns v0 v1 I R = some o) (hk : P (some (.int o)) (I, R, J)) : zw_C X M_X6_darkColumns 1 0 0 199 [.ref v0, .ref v1] (I, R, J) P := by
  show zy_V X M_X6_darkColumns 1 P 0 [.ref v0, .ref v1, .null, .null, .null] [] (I, R, J)
  unfold f_X6_darkColumns at hf
  refine zv_iconst (pc := 0) d_X6_darkColumns_0 zc_i_0 ?_
  refine zx_istore_n (pc := 1) (x2 := 0) (L2 := [.ref v0, .ref v1, .int 0, .null, .null]) d_X6_darkColumns_1 (by decide) rfl rfl ?_
  refine zv_iconst (pc := 2) d_X6_darkColumns_2 zc_i_0 ?_
  refine zx_istore_n (pc := 3) (x2 := 0) (L2 := [.ref v0, .ref v1, .int 0, .int 0, .null]) d_X6_darkColumns_3 (by decide) rfl rfl ?_
  obtain ⟨q8, hq8, hf⟩ := zw_bdE hf
  refine zx_weak (L' := [.ref v0, .ref v1, .int 0, .int 0, .null]) (zw_leS (zw_leS (zw_leS (zw_leS (zw_leN zw_leZ))))) (s_X6_darkColumns_4_lp X P v0 v1 I R J _ _ _ hq8 ?_)
  show zy_V X M_X6_darkColumns 1 P 32 [.ref v0, .ref v1, .int q8, .null, .null] [] (I, R, J)
  refine zv_iconst (pc := 32) d_X6_darkColumns_32 zc_i_0 ?_
  refine zx_istore_n (pc := 33) (x2 := 0) (L2 := [.ref v0, .ref v1, .int q8, .int 0, .null]) d_X6_darkColumns_33 (by decide) rfl rfl ?_
  refine zv_iconst (pc := 34) d_X6_darkColumns_34 zc_i_0 ?_
  refine zx_istore (pc := 35) (x2 := 0) (L2 := [.ref v0, .ref v1, .int q8, .int 0, .int 0]) d_X6_darkColumns_35 (by decide) rfl rfl ?_
  obtain ⟨q20, hq20, hf⟩ := zw_bdE hf
  refine zx_weak (L' := [.ref v0, .ref v1, .int q8, .int 0, .int 0]) (zw_leS (zw_leS (zw_leS (zw_leS (zw_leS zw_leZ))))) (s_X6_darkColumns_37_lp X P v0 v1 q8 I R J _ _ _ hq20 ?_)
  show zy_V X M_X6_darkColumns 1 P 84 [.null, .null, .null, .int q20, .null] [] (I, R, J)
  refine zv_iload_n (pc := 84) d_X6_darkColumns_84 rfl ?_
  cases hf
  exact zx_iret (pc := 85) d_X6_darkColumns_85 rfl hk
abbrev M_X6_unevenness : zw_M := (⟨"CutStones$Shine", "unevenness", "()I"⟩, prog_8_method_7_code, 3, (Option.some Jvm.ClassFile.FieldType.int))
theorem d_X6_unevenness_0 : decode M_X6_unevenness.2.1 0 = .ok (.iconst 0, 1) := by decide +kernel
theorem d_X6_unevenness_1 : decode M_X6_unevenness.2.1 1 = .ok (.istore_n 1, 1) := by decide +kernel
theorem d_X6_unevenness_2 : decode M_X6_unevenness.2.1 2 = .ok (.iconst 0, 1) := by decide +kernel
theorem d_X6_unevenness_3 : decode M_X6_unevenness.2.1 3 = .ok (.istore_n 2, 1) := by decide +kernel
theorem d_X6_unevenness_4 : decode M_X6_unevenness.2.1 4 = .ok (.iload_n 2, 1) := by decide +kernel
theorem d_X6_unevenness_5 : decode M_X6_unevenness.2.1 5 = .ok (.aload_n 0, 1) := by decide +kernel
theorem d_X6_unevenness_6 : decode M_X6_unevenness.2.1 6 = .ok (.getfield 22, 3) := by decide +kernel
theorem d_X6_unevenness_9 : decode M_X6_unevenness.2.1 9 = .ok (.iconst 2, 1) := by decide +kernel
theorem d_X6_unevenness_10 : decode M_X6_unevenness.2.1 10 = .ok (.idiv, 1) := by decide +kernel
theorem d_X6_unevenness_11 : decode M_X6_unevenness.2.1 11 = .ok (.if_icmp .ge 41, 3) := by decide +kernel
theorem d_X6_unevenness_14 : decode M_X6_unevenness.2.1 14 = .ok (.iload_n 1, 1) := by decide +kernel
theorem d_X6_unevenness_15 : decode M_X6_unevenness.2.1 15 = .ok (.aload_n 0, 1) := by decide +kernel
theorem d_X6_unevenness_16 : decode M_X6_unevenness.2.1 16 = .ok (.getfield 18, 3) := by decide +kernel
theorem d_X6_unevenness_19 : decode M_X6_unevenness.2.1 19 = .ok (.getfield 78, 3) := by decide +kernel
theorem d_X6_unevenness_22 : decode M_X6_unevenness.2.1 22 = .ok (.iload_n 2, 1) := by decide +kernel
theorem d_X6_unevenness_23 : decode M_X6_unevenness.2.1 23 = .ok (.iaload, 1) := by decide +kernel
theorem d_X6_unevenness_24 : decode M_X6_unevenness.2.1 24 = .ok (.aload_n 0, 1) := by decide +kernel
theorem d_X6_unevenness_25 : decode M_X6_unevenness.2.1 25 = .ok (.getfield 18, 3) := by decide +kernel
theorem d_X6_unevenness_28 : decode M_X6_unevenness.2.1 28 = .ok (.getfield 78, 3) := by decide +kernel
theorem d_X6_unevenness_31 : decode M_X6_unevenness.2.1 31 = .ok (.aload_n 0, 1) := by decide +kernel
theorem d_X6_unevenness_32 : decode M_X6_unevenness.2.1 32 = .ok (.getfield 22, 3) := by decide +kernel
theorem d_X6_unevenness_35 : decode M_X6_unevenness.2.1 35 = .ok (.iconst 1, 1) := by decide +kernel
theorem d_X6_unevenness_36 : decode M_X6_unevenness.2.1 36 = .ok (.isub, 1) := by decide +kernel
theorem d_X6_unevenness_37 : decode M_X6_unevenness.2.1 37 = .ok (.iload_n 2, 1) := by decide +kernel
theorem d_X6_unevenness_38 : decode M_X6_unevenness.2.1 38 = .ok (.isub, 1) := by decide +kernel
theorem d_X6_unevenness_39 : decode M_X6_unevenness.2.1 39 = .ok (.iaload, 1) := by decide +kernel
theorem d_X6_unevenness_40 : decode M_X6_unevenness.2.1 40 = .ok (.isub, 1) := by decide +kernel
theorem d_X6_unevenness_41 : decode M_X6_unevenness.2.1 41 = .ok (.invokestatic 94, 3) := by decide +kernel
theorem d_X6_unevenness_44 : decode M_X6_unevenness.2.1 44 = .ok (.iadd, 1) := by decide +kernel
theorem d_X6_unevenness_45 : decode M_X6_unevenness.2.1 45 = .ok (.istore_n 1, 1) := by decide +kernel
theorem d_X6_unevenness_46 : decode M_X6_unevenness.2.1 46 = .ok (.iinc 2 1, 3) := by decide +kernel
theorem d_X6_unevenness_49 : decode M_X6_unevenness.2.1 49 = .ok (.goto (-45), 3) := by decide +kernel
theorem d_X6_unevenness_52 : decode M_X6_unevenness.2.1 52 = .ok (.iload_n 1, 1) := by decide +kernel
theorem d_X6_unevenness_53 : decode M_X6_unevenness.2.1 53 = .ok (.ireturn, 1) := by decide +kernel
theorem ce_X6_unevenness : zw_CeV M_X6_unevenness 0 := ⟨⟨⟨by decide +kernel, by decide +kernel, by decide +kernel⟩, (zw_mG (List.mem_of_getElem? (i := 962) (by decide +kernel)) rfl), (zw_mG (List.mem_of_getElem? (i := 104) (by decide +kernel)) rfl), by decide, by decide +kernel⟩, (zw_mG (List.mem_of_getElem? (i := 961) (by decide +kernel)) rfl), (zw_mG (List.mem_of_getElem? (i := 33) (by decide +kernel)) rfl)⟩
def s_X6_unevenness_4 (v0 : Nat) (I : zI) (R : zR) (s : Int32 × Int32) : Option ((Int32 × Int32) ⊕ (Int32)) :=
  zw_g (zw_gc v0 6) (if ((I v0 2) / 2) ≤ s.2 then some (.inr s.1) else zw_g (zw_gc (R v0 1) 2) (zw_g (zw_gc (R (R v0 1) 3) 13) (zw_g (zw_in s.2 (zw_SH (R (R v0 1) 3)).2) (zw_g (zw_in (((I v0 2) - 1) - s.2) (zw_SH (R (R v0 1) 3)).2) (zw_let ((if 0 ≤ ((I (R (R v0 1) 3) (Int32.toNatClampNeg s.2)) - (I (R (R v0 1) 3) (Int32.toNatClampNeg (((I v0 2) - 1) - s.2)))) then ((I (R (R v0 1) 3) (Int32.toNatClampNeg s.2)) - (I (R (R v0 1) 3) (Int32.toNatClampNeg (((I v0 2) - 1) - s.2)))) else 0 - ((I (R (R v0 1) 3) (Int32.toNatClampNeg s.2)) - (I (R (R v0 1) 3) (Int32.toNatClampNeg (((I v0 2) - 1) - s.2))))) : Int32) fun x7 => (zw_let ((s.1 + x7) : Int32) fun x8 => (zw_let (s.2 + 1 : Int32) fun x9 => (some (.inl (x8, x9))))))))))
theorem s_X6_unevenness_4_ok (X : zw_X) (P : Option Value → aS → Prop) (v0 : Nat) (I : zI) (R : zR) (J : zJ) (s : Int32 × Int32) (o : (Int32 × Int32) ⊕ (Int32)) (hf : s_X6_unevenness_4 v0 I R s = some o) (hk : (zw_se (fun t => zy_V X M_X6_unevenness 1 P 4 [.ref v0, .int t.1, .int t.2] [] (I, R, J)) (fun r => zy_V X M_X6_unevenness 1 P 52 [.null, .int r, .null] [] (I, R, J)) o)) : zy_V X M_X6_unevenness 1 P 4 [.ref v0, .int s.1, .int s.2] [] (I, R, J) := by
  unfold s_X6_unevenness_4 at hf
  refine zv_iload_n (pc := 4) d_X6_unevenness_4 rfl ?_
  refine zv_aload_n (pc := 5) d_X6_unevenness_5 rfl ?_
  obtain ⟨g1, hf⟩ := zw_gcE hf (by decide)
  refine zx_getI (pc := 6) d_X6_unevenness_6 lk_CutStones_Shine_22 (by decide) g1 ?_
  refine zv_iconst (pc := 9) d_X6_unevenness_9 zc_i_2 ?_
  refine zv_idiv (pc := 10) d_X6_unevenness_10 (by decide +kernel) ?_
  rcases zw_ifE hf with ⟨c2, hf⟩ | ⟨c2, hf⟩
  · refine zv_icmp_ge (pc := 11) (tg := 52) d_X6_unevenness_11 (by decide) (fun _ => ?_) (fun q => absurd c2 q)
    cases hf
    exact zx_weak (zw_leN (zw_leS (zw_leN zw_leZ))) hk
  · refine zv_icmp_ge (pc := 11) (tg := 52) d_X6_unevenness_11 (by decide) (fun q => absurd q c2) (fun _ => ?_)
    refine zv_iload_n (pc := 14) d_X6_unevenness_14 rfl ?_
    refine zv_aload_n (pc := 15) d_X6_unevenness_15 rfl ?_
    obtain ⟨g3, hf⟩ := zw_gcE hf (by decide)
    refine zx_getR (pc := 16) d_X6_unevenness_16 lk_CutStones_Shine_18 (by decide) g1 g3 ?_
    obtain ⟨g4, hf⟩ := zw_gcE hf (by decide)
    refine zx_getR (pc := 19) d_X6_unevenness_19 lk_CutStones_Shine_78 (by decide) g3 g4 ?_
    refine zv_iload_n (pc := 22) d_X6_unevenness_22 rfl ?_
    obtain ⟨i5, hf⟩ := zw_inE hf
    refine zx_iald (pc := 23) d_X6_unevenness_23 g4 i5 ?_
    refine zv_aload_n (pc := 24) d_X6_unevenness_24 rfl ?_
    refine zx_getR (pc := 25) d_X6_unevenness_25 lk_CutStones_Shine_18 (by decide) g1 g3 ?_
    refine zx_getR (pc := 28) d_X6_unevenness_28 lk_CutStones_Shine_78 (by decide) g3 g4 ?_
    refine zv_aload_n (pc := 31) d_X6_unevenness_31 rfl ?_
    refine zx_getI (pc := 32) d_X6_unevenness_32 lk_CutStones_Shine_22 (by decide) g1 ?_
    refine zv_iconst (pc := 35) d_X6_unevenness_35 zc_i_1 ?_
    refine zv_isub (pc := 36) d_X6_unevenness_36 ?_
    refine zv_iload_n (pc := 37) d_X6_unevenness_37 rfl ?_
    refine zv_isub (pc := 38) d_X6_unevenness_38 ?_
    obtain ⟨i6, hf⟩ := zw_inE hf
    refine zx_iald (pc := 39) d_X6_unevenness_39 g4 i6 ?_
    refine zv_isub (pc := 40) d_X6_unevenness_40 ?_
    refine zv_abs (pc := 41) d_X6_unevenness_41 (zw_mG (List.mem_of_getElem? (i := 963) (by decide +kernel)) rfl) (by decide) (Nat.le_of_ble_eq_true rfl) ⟨Nat.le_refl _, Nat.le_refl _⟩ ?_
    obtain ⟨x7, ex7, hf⟩ := zw_letE hf
    rw [← ex7]
    refine zv_iadd (pc := 44) d_X6_unevenness_44 ?_
    obtain ⟨x8, ex8, hf⟩ := zw_letE hf
    refine zx_istore_n (pc := 45) (x2 := x8) (L2 := [.ref v0, .int x8, .int s.2]) d_X6_unevenness_45 (by decide) ex8 rfl ?_
    obtain ⟨x9, ex9, hf⟩ := zw_letE hf
    refine zx_iinc (pc := 46) (x2 := x9) (L2 := [.ref v0, .int x8, .int x9]) d_X6_unevenness_46 (by decide) rfl zc_i_1 ex9 rfl ?_
    refine zv_goto (pc := 49) (tg := 4) d_X6_unevenness_49 (by decide) ?_
    cases hf
    exact zx_weak (zw_leS (zw_leS (zw_leS zw_leZ))) hk
theorem s_X6_unevenness_4_lp (X : zw_X) (P : Option Value → aS → Prop) (v0 : Nat) (I : zI) (R : zR) (J : zJ) (n : Nat) (s : Int32 × Int32) (r : Int32) (h : zw_it (s_X6_unevenness_4 v0 I R) n s = some r) (hq : zy_V X M_X6_unevenness 1 P 52 [.null, .int r, .null] [] (I, R, J)) : zy_V X M_X6_unevenness 1 P 4 [.ref v0, .int s.1, .int s.2] [] (I, R, J) :=
  zw_itE (A := (fun t : Int32 × Int32 => zy_V X M_X6_unevenness 1 P 4 [.ref v0, .int t.1, .int t.2] [] (I, R, J))) (Q := (fun r : Int32 => zy_V X M_X6_unevenness 1 P 52 [.null, .int r, .null] [] (I, R, J))) (fun s o h1 h2 => s_X6_unevenness_4_ok X P v0 I R J s o h1 h2) n s r h hq
def f_X6_unevenness (v0 : Nat) (I : zI) (R : zR) : Option (Int32) :=
  (zw_it (s_X6_unevenness_4 v0 I R) 1000000 (0, 0)).bind fun q10 => (some q10)
theorem c_X6_unevenness (X : zw_X) (v0 : Nat) (I : zI) (R : zR) (J : zJ) {P : Option Value → aS → Prop} (o : Int32) (hf : f_X6_unevenness v0 I R = some o) (hk : P (some (.int o)) (I, R, J)) : zw_C X M_X6_unevenness 1 0 0 199 [.ref v0] (I, R, J) P := by
  show zy_V X M_X6_unevenness 1 P 0 [.ref v0, .null, .null] [] (I, R, J)
  unfold f_X6_unevenness at hf
  refine zv_iconst (pc := 0) d_X6_unevenness_0 zc_i_0 ?_
  refine zx_istore_n (pc := 1) (x2 := 0) (L2 := [.ref v0, .int 0, .null]) d_X6_unevenness_1 (by decide) rfl rfl ?_
  refine zv_iconst (pc := 2) d_X6_unevenness_2 zc_i_0 ?_
  refine zx_istore_n (pc := 3) (x2 := 0) (L2 := [.ref v0, .int 0, .int 0]) d_X6_unevenness_3 (by decide) rfl rfl ?_
  obtain ⟨q10, hq10, hf⟩ := zw_bdE hf
  refine zx_weak (L' := [.ref v0, .int 0, .int 0]) (zw_leS (zw_leS (zw_leS zw_leZ))) (s_X6_unevenness_4_lp X P v0 I R J _ _ _ hq10 ?_)
  show zy_V X M_X6_unevenness 1 P 52 [.null, .int q10, .null] [] (I, R, J)
  refine zv_iload_n (pc := 52) d_X6_unevenness_52 rfl ?_
  cases hf
  exact zx_iret (pc := 53) d_X6_unevenness_53 rfl hk
abbrev M_X8_keepInt : zw_M := (⟨"CutStones$Tape", "keepInt", "(III)V"⟩, prog_10_method_9_code, 5, (Option.none : Option Jvm.ClassFile.FieldType))
theorem d_X8_keepInt_0 : decode M_X8_keepInt.2.1 0 = .ok (.aload_n 0, 1) := by decide +kernel
theorem d_X8_keepInt_1 : decode M_X8_keepInt.2.1 1 = .ok (.getfield 19, 3) := by decide +kernel
theorem d_X8_keepInt_4 : decode M_X8_keepInt.2.1 4 = .ok (.iload_n 1, 1) := by decide +kernel
theorem d_X8_keepInt_5 : decode M_X8_keepInt.2.1 5 = .ok (.iload_n 3, 1) := by decide +kernel
theorem d_X8_keepInt_6 : decode M_X8_keepInt.2.1 6 = .ok (.iload_n 2, 1) := by decide +kernel
theorem d_X8_keepInt_7 : decode M_X8_keepInt.2.1 7 = .ok (.isub, 1) := by decide +kernel
theorem d_X8_keepInt_8 : decode M_X8_keepInt.2.1 8 = .ok (.iconst 4, 1) := by decide +kernel
theorem d_X8_keepInt_9 : decode M_X8_keepInt.2.1 9 = .ok (.if_icmp .gt 7, 3) := by decide +kernel
theorem d_X8_keepInt_12 : decode M_X8_keepInt.2.1 12 = .ok (.iconst 3, 1) := by decide +kernel
theorem d_X8_keepInt_13 : decode M_X8_keepInt.2.1 13 = .ok (.goto 4, 3) := by decide +kernel
theorem d_X8_keepInt_16 : decode M_X8_keepInt.2.1 16 = .ok (.iconst 1, 1) := by decide +kernel
theorem d_X8_keepInt_17 : decode M_X8_keepInt.2.1 17 = .ok (.iastore, 1) := by decide +kernel
theorem d_X8_keepInt_18 : decode M_X8_keepInt.2.1 18 = .ok (.iload_n 2, 1) := by decide +kernel
theorem d_X8_keepInt_19 : decode M_X8_keepInt.2.1 19 = .ok (.istore 4, 2) := by decide +kernel
theorem d_X8_keepInt_21 : decode M_X8_keepInt.2.1 21 = .ok (.iload 4, 2) := by decide +kernel
theorem d_X8_keepInt_23 : decode M_X8_keepInt.2.1 23 = .ok (.iload_n 3, 1) := by decide +kernel
theorem d_X8_keepInt_24 : decode M_X8_keepInt.2.1 24 = .ok (.if_icmp .ge 44, 3) := by decide +kernel
theorem d_X8_keepInt_27 : decode M_X8_keepInt.2.1 27 = .ok (.iload 4, 2) := by decide +kernel
theorem d_X8_keepInt_29 : decode M_X8_keepInt.2.1 29 = .ok (.iload_n 2, 1) := by decide +kernel
theorem d_X8_keepInt_30 : decode M_X8_keepInt.2.1 30 = .ok (.iconst 4, 1) := by decide +kernel
theorem d_X8_keepInt_31 : decode M_X8_keepInt.2.1 31 = .ok (.iadd, 1) := by decide +kernel
theorem d_X8_keepInt_32 : decode M_X8_keepInt.2.1 32 = .ok (.if_icmp .ge 36, 3) := by decide +kernel
theorem d_X8_keepInt_35 : decode M_X8_keepInt.2.1 35 = .ok (.aload_n 0, 1) := by decide +kernel
theorem d_X8_keepInt_36 : decode M_X8_keepInt.2.1 36 = .ok (.getfield 26, 3) := by decide +kernel
theorem d_X8_keepInt_39 : decode M_X8_keepInt.2.1 39 = .ok (.iload_n 1, 1) := by decide +kernel
theorem d_X8_keepInt_40 : decode M_X8_keepInt.2.1 40 = .ok (.aload_n 0, 1) := by decide +kernel
theorem d_X8_keepInt_41 : decode M_X8_keepInt.2.1 41 = .ok (.getfield 26, 3) := by decide +kernel
theorem d_X8_keepInt_44 : decode M_X8_keepInt.2.1 44 = .ok (.iload_n 1, 1) := by decide +kernel
theorem d_X8_keepInt_45 : decode M_X8_keepInt.2.1 45 = .ok (.laload, 1) := by decide +kernel
theorem d_X8_keepInt_46 : decode M_X8_keepInt.2.1 46 = .ok (.ldc2_w 82, 3) := by decide +kernel
theorem d_X8_keepInt_49 : decode M_X8_keepInt.2.1 49 = .ok (.lmul, 1) := by decide +kernel
theorem d_X8_keepInt_50 : decode M_X8_keepInt.2.1 50 = .ok (.aload_n 0, 1) := by decide +kernel
theorem d_X8_keepInt_51 : decode M_X8_keepInt.2.1 51 = .ok (.iload 4, 2) := by decide +kernel
theorem d_X8_keepInt_53 : decode M_X8_keepInt.2.1 53 = .ok (.invokevirtual 38, 3) := by decide +kernel
theorem d_X8_keepInt_56 : decode M_X8_keepInt.2.1 56 = .ok (.bipush 48, 2) := by decide +kernel
theorem d_X8_keepInt_58 : decode M_X8_keepInt.2.1 58 = .ok (.isub, 1) := by decide +kernel
theorem d_X8_keepInt_59 : decode M_X8_keepInt.2.1 59 = .ok (.i2l, 1) := by decide +kernel
theorem d_X8_keepInt_60 : decode M_X8_keepInt.2.1 60 = .ok (.ladd, 1) := by decide +kernel
theorem d_X8_keepInt_61 : decode M_X8_keepInt.2.1 61 = .ok (.lastore, 1) := by decide +kernel
theorem d_X8_keepInt_62 : decode M_X8_keepInt.2.1 62 = .ok (.iinc 4 1, 3) := by decide +kernel
theorem d_X8_keepInt_65 : decode M_X8_keepInt.2.1 65 = .ok (.goto (-44), 3) := by decide +kernel
theorem d_X8_keepInt_68 : decode M_X8_keepInt.2.1 68 = .ok (.return_, 1) := by decide +kernel
theorem ce_X8_keepInt : zw_CeV M_X8_keepInt 3 := ⟨⟨⟨by decide +kernel, by decide +kernel, by decide +kernel⟩, (zw_mG (List.mem_of_getElem? (i := 623) (by decide +kernel)) rfl), (zw_mG (List.mem_of_getElem? (i := 97) (by decide +kernel)) rfl), by decide, by decide +kernel⟩, (zw_mG (List.mem_of_getElem? (i := 622) (by decide +kernel)) rfl), (zw_mG (List.mem_of_getElem? (i := 4) (by decide +kernel)) rfl)⟩
def s_X8_keepInt_21 (v0 : Nat) (v1 : Int32) (v2 : Int32) (v3 : Int32) (I : zI) (R : zR) (s : Int32 × zJ) : Option ((Int32 × zJ) ⊕ (zJ)) :=
  if v3 ≤ s.1 then some (.inr s.2) else if (v2 + 4) ≤ s.1 then some (.inr s.2) else zw_g (zw_gc v0 8) (zw_g (zw_gc (R v0 4) 14) (zw_g (zw_in v1 (zw_SH (R v0 4)).2) ((f_X8_byteAt v0 s.1 I R).bind fun q12 => (zw_g (zw_in v1 (zw_SH (R v0 4)).2) (zw_let (zw_u s.2 (R v0 4) (Int32.toNatClampNeg v1) (((s.2 (R v0 4) (Int32.toNatClampNeg v1)) * 10) + (Int32.toInt64 (q12 - 48))) : zJ) fun J14 => (zw_let (s.1 + 1 : Int32) fun x15 => (some (.inl (x15, J14)))))))))
theorem s_X8_keepInt_21_ok (X : zw_X) (P : Option Value → aS → Prop) (v0 : Nat) (v1 : Int32) (v2 : Int32) (v3 : Int32) (I : zI) (R : zR) (s : Int32 × zJ) (o : (Int32 × zJ) ⊕ (zJ)) (hf : s_X8_keepInt_21 v0 v1 v2 v3 I R s = some o) (hk : (zw_se (fun t => zy_V X M_X8_keepInt 1 P 21 [.ref v0, .int v1, .int v2, .int v3, .int t.1] [] (I, R, t.2)) (fun r => zy_V X M_X8_keepInt 1 P 68 [.null, .null, .null, .null, .null] [] (I, R, r)) o)) : zy_V X M_X8_keepInt 1 P 21 [.ref v0, .int v1, .int v2, .int v3, .int s.1] [] (I, R, s.2) := by
  unfold s_X8_keepInt_21 at hf
  refine zv_iload (pc := 21) d_X8_keepInt_21 rfl ?_
  refine zv_iload_n (pc := 23) d_X8_keepInt_23 rfl ?_
  rcases zw_ifE hf with ⟨c7, hf⟩ | ⟨c7, hf⟩
  · refine zv_icmp_ge (pc := 24) (tg := 68) d_X8_keepInt_24 (by decide) (fun _ => ?_) (fun q => absurd c7 q)
    cases hf
    exact zx_weak (zw_leN (zw_leN (zw_leN (zw_leN (zw_leN zw_leZ))))) hk
  · refine zv_icmp_ge (pc := 24) (tg := 68) d_X8_keepInt_24 (by decide) (fun q => absurd q c7) (fun _ => ?_)
    refine zv_iload (pc := 27) d_X8_keepInt_27 rfl ?_
    refine zv_iload_n (pc := 29) d_X8_keepInt_29 rfl ?_
    refine zv_iconst (pc := 30) d_X8_keepInt_30 zc_i_4 ?_
    refine zv_iadd (pc := 31) d_X8_keepInt_31 ?_
    rcases zw_ifE hf with ⟨c8, hf⟩ | ⟨c8, hf⟩
    · refine zv_icmp_ge (pc := 32) (tg := 68) d_X8_keepInt_32 (by decide) (fun _ => ?_) (fun q => absurd c8 q)
      cases hf
      exact zx_weak (zw_leN (zw_leN (zw_leN (zw_leN (zw_leN zw_leZ))))) hk
    · refine zv_icmp_ge (pc := 32) (tg := 68) d_X8_keepInt_32 (by decide) (fun q => absurd q c8) (fun _ => ?_)
      refine zv_aload_n (pc := 35) d_X8_keepInt_35 rfl ?_
      obtain ⟨g9, hf⟩ := zw_gcE hf (by decide)
      obtain ⟨g10, hf⟩ := zw_gcE hf (by decide)
      refine zx_getR (pc := 36) d_X8_keepInt_36 lk_CutStones_Tape_26 (by decide) g9 g10 ?_
      refine zv_iload_n (pc := 39) d_X8_keepInt_39 rfl ?_
      refine zv_aload_n (pc := 40) d_X8_keepInt_40 rfl ?_
      refine zx_getR (pc := 41) d_X8_keepInt_41 lk_CutStones_Tape_26 (by decide) g9 g10 ?_
      refine zv_iload_n (pc := 44) d_X8_keepInt_44 rfl ?_
      obtain ⟨i11, hf⟩ := zw_inE hf
      refine zx_lald (pc := 45) d_X8_keepInt_45 g10 i11 ?_
      refine zv_ldc2 (pc := 46) (v := 10) d_X8_keepInt_46 (zw_mG (List.mem_of_getElem? (i := 624) (by decide +kernel)) rfl) ?_
      refine zv_lmul (pc := 49) d_X8_keepInt_49 ?_
      refine zv_aload_n (pc := 50) d_X8_keepInt_50 rfl ?_
      refine zv_iload (pc := 51) d_X8_keepInt_51 rfl ?_
      obtain ⟨q12, hq12, hf⟩ := zw_bdE hf
      refine zx_callV (pc := 53) (As := [.int s.1]) (o := v0) (st := [.long ((s.2 (R v0 4) (Int32.toNatClampNeg v1)) * 10), .int v1, .ref (R v0 4)]) (d2 := 0) (M2 := M_X8_byteAt) (P2 := (fun r S => r = (some (.int q12)) ∧ S = (I, R, s.2))) d_X8_keepInt_53 (zw_mG (List.mem_of_getElem? (i := 545) (by decide +kernel)) rfl) ce_X8_byteAt (zw_RvK g9 rfl rfl) (Nat.le_of_ble_eq_true rfl) rfl (Nat.le_of_ble_eq_true rfl) (by decide) (c_X8_byteAt X v0 s.1 I R s.2 _ hq12 ⟨rfl, rfl⟩) ?_
      rintro _ _ ⟨rfl, rfl⟩
      show zy_V X M_X8_keepInt 1 P (53 + 3) [.ref v0, .int v1, .int v2, .int v3, .int s.1] [.int q12, .long ((s.2 (R v0 4) (Int32.toNatClampNeg v1)) * 10), .int v1, .ref (R v0 4)] (I, R, s.2)
      refine zv_bipush (pc := 56) d_X8_keepInt_56 zc_b_48 ?_
      refine zv_isub (pc := 58) d_X8_keepInt_58 ?_
      refine zv_i2l (pc := 59) d_X8_keepInt_59 ?_
      refine zv_ladd (pc := 60) d_X8_keepInt_60 ?_
      obtain ⟨i13, hf⟩ := zw_inE hf
      obtain ⟨J14, eJ14, hf⟩ := zw_letE hf
      refine zx_last (pc := 61) (J2 := J14) d_X8_keepInt_61 g10 i13 eJ14 ?_
      obtain ⟨x15, ex15, hf⟩ := zw_letE hf
      refine zx_iinc (pc := 62) (x2 := x15) (L2 := [.ref v0, .int v1, .int v2, .int v3, .int x15]) d_X8_keepInt_62 (by decide) rfl zc_i_1 ex15 rfl ?_
      refine zv_goto (pc := 65) (tg := 21) d_X8_keepInt_65 (by decide) ?_
      cases hf
      exact zx_weak (zw_leS (zw_leS (zw_leS (zw_leS (zw_leS zw_leZ))))) hk
theorem s_X8_keepInt_21_lp (X : zw_X) (P : Option Value → aS → Prop) (v0 : Nat) (v1 : Int32) (v2 : Int32) (v3 : Int32) (I : zI) (R : zR) (n : Nat) (s : Int32 × zJ) (r : zJ) (h : zw_it (s_X8_keepInt_21 v0 v1 v2 v3 I R) n s = some r) (hq : zy_V X M_X8_keepInt 1 P 68 [.null, .null, .null, .null, .null] [] (I, R, r)) : zy_V X M_X8_keepInt 1 P 21 [.ref v0, .int v1, .int v2, .int v3, .int s.1] [] (I, R, s.2) :=
  zw_itE (A := (fun t : Int32 × zJ => zy_V X M_X8_keepInt 1 P 21 [.ref v0, .int v1, .int v2, .int v3, .int t.1] [] (I, R, t.2))) (Q := (fun r : zJ => zy_V X M_X8_keepInt 1 P 68 [.null, .null, .null, .null, .null] [] (I, R, r))) (fun s o h1 h2 => s_X8_keepInt_21_ok X P v0 v1 v2 v3 I R s o h1 h2) n s r h hq
def j_X8_keepInt_17 (v0 : Nat) (v1 : Int32) (v2 : Int32) (v3 : Int32) (s0 : Nat) (s1 : Int32) (s2 : Int32) (I : zI) (R : zR) (J : zJ) : Option (zI × zJ) :=
  zw_g (zw_gc s0 13) (zw_g (zw_in s1 (zw_SH s0).2) (zw_let (zw_u I s0 (Int32.toNatClampNeg s1) s2 : zI) fun I6 => ((zw_it (s_X8_keepInt_21 v0 v1 v2 v3 I6 R) 1000000 (v2, J)).bind fun q16 => (some (I6, q16)))))
theorem j_X8_keepInt_17_ok (X : zw_X) (P : Option Value → aS → Prop) (v0 : Nat) (v1 : Int32) (v2 : Int32) (v3 : Int32) (s0 : Nat) (s1 : Int32) (s2 : Int32) (I : zI) (R : zR) (J : zJ) (o : zI × zJ) (hf : j_X8_keepInt_17 v0 v1 v2 v3 s0 s1 s2 I R J = some o) (hk : P none (o.1, R, o.2)) : zy_V X M_X8_keepInt 1 P 17 [.ref v0, .int v1, .int v2, .int v3, .null] [.int s2, .int s1, .ref s0] (I, R, J) := by
  unfold j_X8_keepInt_17 at hf
  obtain ⟨g4, hf⟩ := zw_gcE hf (by decide)
  obtain ⟨i5, hf⟩ := zw_inE hf
  obtain ⟨I6, eI6, hf⟩ := zw_letE hf
  refine zx_iast (pc := 17) (I2 := I6) d_X8_keepInt_17 g4 i5 eI6 ?_
  refine zv_iload_n (pc := 18) d_X8_keepInt_18 rfl ?_
  refine zx_istore (pc := 19) (x2 := v2) (L2 := [.ref v0, .int v1, .int v2, .int v3, .int v2]) d_X8_keepInt_19 (by decide) rfl rfl ?_
  obtain ⟨q16, hq16, hf⟩ := zw_bdE hf
  refine zx_weak (L' := [.ref v0, .int v1, .int v2, .int v3, .int v2]) (zw_leS (zw_leS (zw_leS (zw_leS (zw_leS zw_leZ))))) (s_X8_keepInt_21_lp X P v0 v1 v2 v3 I6 R _ _ _ hq16 ?_)
  show zy_V X M_X8_keepInt 1 P 68 [.null, .null, .null, .null, .null] [] (I6, R, q16)
  cases hf
  exact zx_vret (pc := 68) d_X8_keepInt_68 rfl hk
def f_X8_keepInt (v0 : Nat) (v1 : Int32) (v2 : Int32) (v3 : Int32) (I : zI) (R : zR) (J : zJ) : Option (zI × zJ) :=
  zw_g (zw_gc v0 8) (zw_g (zw_gc (R v0 2) 13) (if 4 < (v3 - v2) then j_X8_keepInt_17 v0 v1 v2 v3 (R v0 2) v1 1 I R J else j_X8_keepInt_17 v0 v1 v2 v3 (R v0 2) v1 3 I R J))
theorem c_X8_keepInt (X : zw_X) (v0 : Nat) (v1 : Int32) (v2 : Int32) (v3 : Int32) (I : zI) (R : zR) (J : zJ) {P : Option Value → aS → Prop} (o : zI × zJ) (hf : f_X8_keepInt v0 v1 v2 v3 I R J = some o) (hk : P none (o.1, R, o.2)) : zw_C X M_X8_keepInt 1 0 0 199 [.ref v0, .int v1, .int v2, .int v3] (I, R, J) P := by
  show zy_V X M_X8_keepInt 1 P 0 [.ref v0, .int v1, .int v2, .int v3, .null] [] (I, R, J)
  unfold f_X8_keepInt at hf
  refine zv_aload_n (pc := 0) d_X8_keepInt_0 rfl ?_
  obtain ⟨g1, hf⟩ := zw_gcE hf (by decide)
  obtain ⟨g2, hf⟩ := zw_gcE hf (by decide)
  refine zx_getR (pc := 1) d_X8_keepInt_1 lk_CutStones_Tape_19 (by decide) g1 g2 ?_
  refine zv_iload_n (pc := 4) d_X8_keepInt_4 rfl ?_
  refine zv_iload_n (pc := 5) d_X8_keepInt_5 rfl ?_
  refine zv_iload_n (pc := 6) d_X8_keepInt_6 rfl ?_
  refine zv_isub (pc := 7) d_X8_keepInt_7 ?_
  refine zv_iconst (pc := 8) d_X8_keepInt_8 zc_i_4 ?_
  rcases zw_ifE hf with ⟨c3, hf⟩ | ⟨c3, hf⟩
  · refine zv_icmp_gt (pc := 9) (tg := 16) d_X8_keepInt_9 (by decide) (fun _ => ?_) (fun q => absurd c3 q)
    refine zv_iconst (pc := 16) d_X8_keepInt_16 zc_i_1 ?_
    exact zx_weak (zw_leS (zw_leS (zw_leS (zw_leS (zw_leN zw_leZ))))) (j_X8_keepInt_17_ok X P v0 v1 v2 v3 (R v0 2) v1 1 I R J _ hf hk)
  · refine zv_icmp_gt (pc := 9) (tg := 16) d_X8_keepInt_9 (by decide) (fun q => absurd q c3) (fun _ => ?_)
    refine zv_iconst (pc := 12) d_X8_keepInt_12 zc_i_3 ?_
    refine zv_goto (pc := 13) (tg := 17) d_X8_keepInt_13 (by decide) ?_
    exact zx_weak (zw_leS (zw_leS (zw_leS (zw_leS (zw_leN zw_leZ))))) (j_X8_keepInt_17_ok X P v0 v1 v2 v3 (R v0 2) v1 3 I R J _ hf hk)
abbrev M_X8_pastBlanks : zw_M := (⟨"CutStones$Tape", "pastBlanks", "(I)I"⟩, prog_10_method_5_code, 3, (Option.some Jvm.ClassFile.FieldType.int))
theorem d_X8_pastBlanks_0 : decode M_X8_pastBlanks.2.1 0 = .ok (.iload_n 1, 1) := by decide +kernel
theorem d_X8_pastBlanks_1 : decode M_X8_pastBlanks.2.1 1 = .ok (.istore_n 2, 1) := by decide +kernel
theorem d_X8_pastBlanks_2 : decode M_X8_pastBlanks.2.1 2 = .ok (.iload_n 2, 1) := by decide +kernel
theorem d_X8_pastBlanks_3 : decode M_X8_pastBlanks.2.1 3 = .ok (.aload_n 0, 1) := by decide +kernel
theorem d_X8_pastBlanks_4 : decode M_X8_pastBlanks.2.1 4 = .ok (.getfield 15, 3) := by decide +kernel
theorem d_X8_pastBlanks_7 : decode M_X8_pastBlanks.2.1 7 = .ok (.if_icmp .ge 20, 3) := by decide +kernel
theorem d_X8_pastBlanks_10 : decode M_X8_pastBlanks.2.1 10 = .ok (.aload_n 0, 1) := by decide +kernel
theorem d_X8_pastBlanks_11 : decode M_X8_pastBlanks.2.1 11 = .ok (.iload_n 2, 1) := by decide +kernel
theorem d_X8_pastBlanks_12 : decode M_X8_pastBlanks.2.1 12 = .ok (.invokevirtual 38, 3) := by decide +kernel
theorem d_X8_pastBlanks_15 : decode M_X8_pastBlanks.2.1 15 = .ok (.invokestatic 41, 3) := by decide +kernel
theorem d_X8_pastBlanks_18 : decode M_X8_pastBlanks.2.1 18 = .ok (.ifCond .eq 9, 3) := by decide +kernel
theorem d_X8_pastBlanks_21 : decode M_X8_pastBlanks.2.1 21 = .ok (.iinc 2 1, 3) := by decide +kernel
theorem d_X8_pastBlanks_24 : decode M_X8_pastBlanks.2.1 24 = .ok (.goto (-22), 3) := by decide +kernel
theorem d_X8_pastBlanks_27 : decode M_X8_pastBlanks.2.1 27 = .ok (.iload_n 2, 1) := by decide +kernel
theorem d_X8_pastBlanks_28 : decode M_X8_pastBlanks.2.1 28 = .ok (.ireturn, 1) := by decide +kernel
theorem ce_X8_pastBlanks : zw_CeV M_X8_pastBlanks 1 := ⟨⟨⟨by decide +kernel, by decide +kernel, by decide +kernel⟩, (zw_mG (List.mem_of_getElem? (i := 544) (by decide +kernel)) rfl), (zw_mG (List.mem_of_getElem? (i := 97) (by decide +kernel)) rfl), by decide, by decide +kernel⟩, (zw_mG (List.mem_of_getElem? (i := 543) (by decide +kernel)) rfl), (zw_mG (List.mem_of_getElem? (i := 0) (by decide +kernel)) rfl)⟩
def s_X8_pastBlanks_2 (v0 : Nat) (I : zI) (R : zR) (s : Int32) : Option ((Int32) ⊕ (Int32)) :=
  zw_g (zw_gc v0 8) (if (I v0 1) ≤ s then some (.inr s) else (f_X8_byteAt v0 s I R).bind fun q3 => ((f_X8_isBlank q3).bind fun q4 => (if q4 = 0 then some (.inr s) else zw_let (s + 1 : Int32) fun x6 => (some (.inl x6)))))
theorem s_X8_pastBlanks_2_ok (X : zw_X) (P : Option Value → aS → Prop) (v0 : Nat) (I : zI) (R : zR) (J : zJ) (s : Int32) (o : (Int32) ⊕ (Int32)) (hf : s_X8_pastBlanks_2 v0 I R s = some o) (hk : (zw_se (fun t => zy_V X M_X8_pastBlanks 1 P 2 [.ref v0, .null, .int t] [] (I, R, J)) (fun r => zy_V X M_X8_pastBlanks 1 P 27 [.null, .null, .int r] [] (I, R, J)) o)) : zy_V X M_X8_pastBlanks 1 P 2 [.ref v0, .null, .int s] [] (I, R, J) := by
  unfold s_X8_pastBlanks_2 at hf
  refine zv_iload_n (pc := 2) d_X8_pastBlanks_2 rfl ?_
  refine zv_aload_n (pc := 3) d_X8_pastBlanks_3 rfl ?_
  obtain ⟨g1, hf⟩ := zw_gcE hf (by decide)
  refine zx_getI (pc := 4) d_X8_pastBlanks_4 lk_CutStones_Tape_15 (by decide) g1 ?_
  rcases zw_ifE hf with ⟨c2, hf⟩ | ⟨c2, hf⟩
  · refine zv_icmp_ge (pc := 7) (tg := 27) d_X8_pastBlanks_7 (by decide) (fun _ => ?_) (fun q => absurd c2 q)
    cases hf
    exact zx_weak (zw_leN (zw_leN (zw_leS zw_leZ))) hk
  · refine zv_icmp_ge (pc := 7) (tg := 27) d_X8_pastBlanks_7 (by decide) (fun q => absurd q c2) (fun _ => ?_)
    refine zv_aload_n (pc := 10) d_X8_pastBlanks_10 rfl ?_
    refine zv_iload_n (pc := 11) d_X8_pastBlanks_11 rfl ?_
    obtain ⟨q3, hq3, hf⟩ := zw_bdE hf
    refine zx_callV (pc := 12) (As := [.int s]) (o := v0) (st := []) (d2 := 0) (M2 := M_X8_byteAt) (P2 := (fun r S => r = (some (.int q3)) ∧ S = (I, R, J))) d_X8_pastBlanks_12 (zw_mG (List.mem_of_getElem? (i := 545) (by decide +kernel)) rfl) ce_X8_byteAt (zw_RvK g1 rfl rfl) (Nat.le_of_ble_eq_true rfl) rfl (Nat.le_of_ble_eq_true rfl) (by decide) (c_X8_byteAt X v0 s I R J _ hq3 ⟨rfl, rfl⟩) ?_
    rintro _ _ ⟨rfl, rfl⟩
    show zy_V X M_X8_pastBlanks 1 P (12 + 3) [.ref v0, .null, .int s] [.int q3] (I, R, J)
    obtain ⟨q4, hq4, hf⟩ := zw_bdE hf
    refine zx_callS (pc := 15) (As := [.int q3]) (st := []) (d2 := 0) (M2 := M_X8_isBlank) (P2 := (fun r S => r = (some (.int q4)) ∧ S = (I, R, J))) d_X8_pastBlanks_15 (zw_mG (List.mem_of_getElem? (i := 549) (by decide +kernel)) rfl) ce_X8_isBlank (Nat.le_of_ble_eq_true rfl) rfl (Nat.le_of_ble_eq_true rfl) (by decide) (c_X8_isBlank X q3 I R J _ hq4 ⟨rfl, rfl⟩) ?_
    rintro _ _ ⟨rfl, rfl⟩
    show zy_V X M_X8_pastBlanks 1 P (15 + 3) [.ref v0, .null, .int s] [.int q4] (I, R, J)
    rcases zw_ifE hf with ⟨c5, hf⟩ | ⟨c5, hf⟩
    · refine zv_if_eq (pc := 18) (tg := 27) d_X8_pastBlanks_18 (by decide) (fun _ => ?_) (fun q => absurd c5 q)
      cases hf
      exact zx_weak (zw_leN (zw_leN (zw_leS zw_leZ))) hk
    · refine zv_if_eq (pc := 18) (tg := 27) d_X8_pastBlanks_18 (by decide) (fun q => absurd q c5) (fun _ => ?_)
      obtain ⟨x6, ex6, hf⟩ := zw_letE hf
      refine zx_iinc (pc := 21) (x2 := x6) (L2 := [.ref v0, .null, .int x6]) d_X8_pastBlanks_21 (by decide) rfl zc_i_1 ex6 rfl ?_
      refine zv_goto (pc := 24) (tg := 2) d_X8_pastBlanks_24 (by decide) ?_
      cases hf
      exact zx_weak (zw_leS (zw_leN (zw_leS zw_leZ))) hk
theorem s_X8_pastBlanks_2_lp (X : zw_X) (P : Option Value → aS → Prop) (v0 : Nat) (I : zI) (R : zR) (J : zJ) (n : Nat) (s : Int32) (r : Int32) (h : zw_it (s_X8_pastBlanks_2 v0 I R) n s = some r) (hq : zy_V X M_X8_pastBlanks 1 P 27 [.null, .null, .int r] [] (I, R, J)) : zy_V X M_X8_pastBlanks 1 P 2 [.ref v0, .null, .int s] [] (I, R, J) :=
  zw_itE (A := (fun t : Int32 => zy_V X M_X8_pastBlanks 1 P 2 [.ref v0, .null, .int t] [] (I, R, J))) (Q := (fun r : Int32 => zy_V X M_X8_pastBlanks 1 P 27 [.null, .null, .int r] [] (I, R, J))) (fun s o h1 h2 => s_X8_pastBlanks_2_ok X P v0 I R J s o h1 h2) n s r h hq
def f_X8_pastBlanks (v0 : Nat) (v1 : Int32) (I : zI) (R : zR) : Option (Int32) :=
  (zw_it (s_X8_pastBlanks_2 v0 I R) 1000000 v1).bind fun q7 => (some q7)
theorem c_X8_pastBlanks (X : zw_X) (v0 : Nat) (v1 : Int32) (I : zI) (R : zR) (J : zJ) {P : Option Value → aS → Prop} (o : Int32) (hf : f_X8_pastBlanks v0 v1 I R = some o) (hk : P (some (.int o)) (I, R, J)) : zw_C X M_X8_pastBlanks 1 0 0 199 [.ref v0, .int v1] (I, R, J) P := by
  show zy_V X M_X8_pastBlanks 1 P 0 [.ref v0, .int v1, .null] [] (I, R, J)
  unfold f_X8_pastBlanks at hf
  refine zv_iload_n (pc := 0) d_X8_pastBlanks_0 rfl ?_
  refine zx_istore_n (pc := 1) (x2 := v1) (L2 := [.ref v0, .int v1, .int v1]) d_X8_pastBlanks_1 (by decide) rfl rfl ?_
  obtain ⟨q7, hq7, hf⟩ := zw_bdE hf
  refine zx_weak (L' := [.ref v0, .null, .int v1]) (zw_leS (zw_leN (zw_leS zw_leZ))) (s_X8_pastBlanks_2_lp X P v0 I R J _ _ _ hq7 ?_)
  show zy_V X M_X8_pastBlanks 1 P 27 [.null, .null, .int q7] [] (I, R, J)
  refine zv_iload_n (pc := 27) d_X8_pastBlanks_27 rfl ?_
  cases hf
  exact zx_iret (pc := 28) d_X8_pastBlanks_28 rfl hk
