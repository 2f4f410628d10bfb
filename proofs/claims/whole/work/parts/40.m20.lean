abbrev M_X10_grade : zw_M := (⟨"CutStones", "grade", "()I"⟩, prog_1_method_15_code, 1, (Option.some Jvm.ClassFile.FieldType.int))
theorem d_X10_grade_0 : decode M_X10_grade.2.1 0 = .ok (.aload_n 0, 1) := by decide +kernel
theorem d_X10_grade_1 : decode M_X10_grade.2.1 1 = .ok (.getfield 48, 3) := by decide +kernel
theorem d_X10_grade_4 : decode M_X10_grade.2.1 4 = .ok (.ifCond .eq 21, 3) := by decide +kernel
theorem d_X10_grade_7 : decode M_X10_grade.2.1 7 = .ok (.aload_n 0, 1) := by decide +kernel
theorem d_X10_grade_8 : decode M_X10_grade.2.1 8 = .ok (.getfield 26, 3) := by decide +kernel
theorem d_X10_grade_11 : decode M_X10_grade.2.1 11 = .ok (.aload_n 0, 1) := by decide +kernel
theorem d_X10_grade_12 : decode M_X10_grade.2.1 12 = .ok (.getfield 44, 3) := by decide +kernel
theorem d_X10_grade_15 : decode M_X10_grade.2.1 15 = .ok (.aload_n 0, 1) := by decide +kernel
theorem d_X10_grade_16 : decode M_X10_grade.2.1 16 = .ok (.getfield 57, 3) := by decide +kernel
theorem d_X10_grade_19 : decode M_X10_grade.2.1 19 = .ok (.invokevirtual 201, 3) := by decide +kernel
theorem d_X10_grade_22 : decode M_X10_grade.2.1 22 = .ok (.goto 4, 3) := by decide +kernel
theorem d_X10_grade_25 : decode M_X10_grade.2.1 25 = .ok (.iconst (-1), 1) := by decide +kernel
theorem d_X10_grade_26 : decode M_X10_grade.2.1 26 = .ok (.ireturn, 1) := by decide +kernel
theorem ce_X10_grade : zw_CeV M_X10_grade 0 := ⟨⟨⟨by decide +kernel, by decide +kernel, by decide +kernel⟩, (zw_mG (List.mem_of_getElem? (i := 977) (by decide +kernel)) rfl), (zw_mG (List.mem_of_getElem? (i := 96) (by decide +kernel)) rfl), by decide, by decide +kernel⟩, (zw_mG (List.mem_of_getElem? (i := 975) (by decide +kernel)) rfl), (zw_mG (List.mem_of_getElem? (i := 976) (by decide +kernel)) rfl)⟩
def f_X10_grade (v0 : Nat) (I : zI) (R : zR) : Option (Int32 × zI) :=
  zw_g (zw_gc v0 10) (if (I v0 6) = 0 then some ((-1), I) else zw_g (zw_gc (R v0 2) 1) (zw_g (zw_gc (R v0 5) 6) (zw_g (zw_gc (R v0 8) 4) ((f_X1_gradeBy (R v0 2) (R v0 5) (R v0 8) I R).bind fun q6 => (some (q6.1, q6.2))))))
theorem c_X10_grade (X : zw_X) (v0 : Nat) (I : zI) (R : zR) (J : zJ) {P : Option Value → aS → Prop} (o : Int32 × zI) (hf : f_X10_grade v0 I R = some o) (hk : P (some (.int o.1)) (o.2, R, J)) : zw_C X M_X10_grade 5 0 0 199 [.ref v0] (I, R, J) P := by
  show zy_V X M_X10_grade 5 P 0 [.ref v0] [] (I, R, J)
  unfold f_X10_grade at hf
  refine zv_aload_n (pc := 0) d_X10_grade_0 rfl ?_
  obtain ⟨g1, hf⟩ := zw_gcE hf (by decide)
  refine zx_getI (pc := 1) d_X10_grade_1 lk_CutStones_48 (by decide) g1 ?_
  rcases zw_ifE hf with ⟨c2, hf⟩ | ⟨c2, hf⟩
  · refine zv_if_eq (pc := 4) (tg := 25) d_X10_grade_4 (by decide) (fun _ => ?_) (fun q => absurd c2 q)
    refine zv_iconst (pc := 25) d_X10_grade_25 zc_i_m1 ?_
    cases hf
    exact zx_iret (pc := 26) d_X10_grade_26 rfl hk
  · refine zv_if_eq (pc := 4) (tg := 25) d_X10_grade_4 (by decide) (fun q => absurd q c2) (fun _ => ?_)
    refine zv_aload_n (pc := 7) d_X10_grade_7 rfl ?_
    obtain ⟨g3, hf⟩ := zw_gcE hf (by decide)
    refine zx_getR (pc := 8) d_X10_grade_8 lk_CutStones_26 (by decide) g1 g3 ?_
    refine zv_aload_n (pc := 11) d_X10_grade_11 rfl ?_
    obtain ⟨g4, hf⟩ := zw_gcE hf (by decide)
    refine zx_getR (pc := 12) d_X10_grade_12 lk_CutStones_44 (by decide) g1 g4 ?_
    refine zv_aload_n (pc := 15) d_X10_grade_15 rfl ?_
    obtain ⟨g5, hf⟩ := zw_gcE hf (by decide)
    refine zx_getR (pc := 16) d_X10_grade_16 lk_CutStones_57 (by decide) g1 g5 ?_
    obtain ⟨q6, hq6, hf⟩ := zw_bdE hf
    refine zx_callV (pc := 19) (As := [.ref (R v0 5), .ref (R v0 8)]) (o := (R v0 2)) (st := []) (d2 := 4) (M2 := M_X1_gradeBy) (P2 := (fun r S => r = (some (.int q6.1)) ∧ S = (q6.2, R, J))) d_X10_grade_19 (zw_mG (List.mem_of_getElem? (i := 978) (by decide +kernel)) rfl) ce_X1_gradeBy (zw_RvK g3 rfl rfl) (Nat.le_of_ble_eq_true rfl) rfl (Nat.le_of_ble_eq_true rfl) (by decide) (c_X1_gradeBy X (R v0 2) (R v0 5) (R v0 8) I R J _ hq6 ⟨rfl, rfl⟩) ?_
    rintro _ _ ⟨rfl, rfl⟩
    show zy_V X M_X10_grade 5 P (19 + 3) [.ref v0] [.int q6.1] (q6.2, R, J)
    refine zv_goto (pc := 22) (tg := 26) d_X10_grade_22 (by decide) ?_
    cases hf
    exact zx_iret (pc := 26) d_X10_grade_26 rfl hk
abbrev M_X10_price : zw_M := (⟨"CutStones", "price", "()I"⟩, prog_1_method_16_code, 1, (Option.some Jvm.ClassFile.FieldType.int))
theorem d_X10_price_0 : decode M_X10_price.2.1 0 = .ok (.aload_n 0, 1) := by decide +kernel
theorem d_X10_price_1 : decode M_X10_price.2.1 1 = .ok (.getfield 48, 3) := by decide +kernel
theorem d_X10_price_4 : decode M_X10_price.2.1 4 = .ok (.ifCond .eq 21, 3) := by decide +kernel
theorem d_X10_price_7 : decode M_X10_price.2.1 7 = .ok (.aload_n 0, 1) := by decide +kernel
theorem d_X10_price_8 : decode M_X10_price.2.1 8 = .ok (.getfield 26, 3) := by decide +kernel
theorem d_X10_price_11 : decode M_X10_price.2.1 11 = .ok (.aload_n 0, 1) := by decide +kernel
theorem d_X10_price_12 : decode M_X10_price.2.1 12 = .ok (.getfield 44, 3) := by decide +kernel
theorem d_X10_price_15 : decode M_X10_price.2.1 15 = .ok (.aload_n 0, 1) := by decide +kernel
theorem d_X10_price_16 : decode M_X10_price.2.1 16 = .ok (.getfield 57, 3) := by decide +kernel
theorem d_X10_price_19 : decode M_X10_price.2.1 19 = .ok (.invokevirtual 205, 3) := by decide +kernel
theorem d_X10_price_22 : decode M_X10_price.2.1 22 = .ok (.goto 4, 3) := by decide +kernel
theorem d_X10_price_25 : decode M_X10_price.2.1 25 = .ok (.iconst (-1), 1) := by decide +kernel
theorem d_X10_price_26 : decode M_X10_price.2.1 26 = .ok (.ireturn, 1) := by decide +kernel
theorem ce_X10_price : zw_CeV M_X10_price 0 := ⟨⟨⟨by decide +kernel, by decide +kernel, by decide +kernel⟩, (zw_mG (List.mem_of_getElem? (i := 1018) (by decide +kernel)) rfl), (zw_mG (List.mem_of_getElem? (i := 96) (by decide +kernel)) rfl), by decide, by decide +kernel⟩, (zw_mG (List.mem_of_getElem? (i := 1016) (by decide +kernel)) rfl), (zw_mG (List.mem_of_getElem? (i := 1017) (by decide +kernel)) rfl)⟩
def f_X10_price (v0 : Nat) (I : zI) (R : zR) : Option (Int32 × zI) :=
  zw_g (zw_gc v0 10) (if (I v0 6) = 0 then some ((-1), I) else zw_g (zw_gc (R v0 2) 1) (zw_g (zw_gc (R v0 5) 6) (zw_g (zw_gc (R v0 8) 4) ((f_X1_priceBy (R v0 2) (R v0 5) (R v0 8) I R).bind fun q6 => (some (q6.1, q6.2))))))
theorem c_X10_price (X : zw_X) (v0 : Nat) (I : zI) (R : zR) (J : zJ) {P : Option Value → aS → Prop} (o : Int32 × zI) (hf : f_X10_price v0 I R = some o) (hk : P (some (.int o.1)) (o.2, R, J)) : zw_C X M_X10_price 5 0 0 199 [.ref v0] (I, R, J) P := by
  show zy_V X M_X10_price 5 P 0 [.ref v0] [] (I, R, J)
  unfold f_X10_price at hf
  refine zv_aload_n (pc := 0) d_X10_price_0 rfl ?_
  obtain ⟨g1, hf⟩ := zw_gcE hf (by decide)
  refine zx_getI (pc := 1) d_X10_price_1 lk_CutStones_48 (by decide) g1 ?_
  rcases zw_ifE hf with ⟨c2, hf⟩ | ⟨c2, hf⟩
  · refine zv_if_eq (pc := 4) (tg := 25) d_X10_price_4 (by decide) (fun _ => ?_) (fun q => absurd c2 q)
    refine zv_iconst (pc := 25) d_X10_price_25 zc_i_m1 ?_
    cases hf
    exact zx_iret (pc := 26) d_X10_price_26 rfl hk
  · refine zv_if_eq (pc := 4) (tg := 25) d_X10_price_4 (by decide) (fun q => absurd q c2) (fun _ => ?_)
    refine zv_aload_n (pc := 7) d_X10_price_7 rfl ?_
    obtain ⟨g3, hf⟩ := zw_gcE hf (by decide)
    refine zx_getR (pc := 8) d_X10_price_8 lk_CutStones_26 (by decide) g1 g3 ?_
    refine zv_aload_n (pc := 11) d_X10_price_11 rfl ?_
    obtain ⟨g4, hf⟩ := zw_gcE hf (by decide)
    refine zx_getR (pc := 12) d_X10_price_12 lk_CutStones_44 (by decide) g1 g4 ?_
    refine zv_aload_n (pc := 15) d_X10_price_15 rfl ?_
    obtain ⟨g5, hf⟩ := zw_gcE hf (by decide)
    refine zx_getR (pc := 16) d_X10_price_16 lk_CutStones_57 (by decide) g1 g5 ?_
    obtain ⟨q6, hq6, hf⟩ := zw_bdE hf
    refine zx_callV (pc := 19) (As := [.ref (R v0 5), .ref (R v0 8)]) (o := (R v0 2)) (st := []) (d2 := 4) (M2 := M_X1_priceBy) (P2 := (fun r S => r = (some (.int q6.1)) ∧ S = (q6.2, R, J))) d_X10_price_19 (zw_mG (List.mem_of_getElem? (i := 1019) (by decide +kernel)) rfl) ce_X1_priceBy (zw_RvK g3 rfl rfl) (Nat.le_of_ble_eq_true rfl) rfl (Nat.le_of_ble_eq_true rfl) (by decide) (c_X1_priceBy X (R v0 2) (R v0 5) (R v0 8) I R J _ hq6 ⟨rfl, rfl⟩) ?_
    rintro _ _ ⟨rfl, rfl⟩
    show zy_V X M_X10_price 5 P (19 + 3) [.ref v0] [.int q6.1] (q6.2, R, J)
    refine zv_goto (pc := 22) (tg := 26) d_X10_price_22 (by decide) ?_
    cases hf
    exact zx_iret (pc := 26) d_X10_price_26 rfl hk
abbrev M_X10_spread : zw_M := (⟨"CutStones", "spread", "(III)I"⟩, prog_1_method_47_code, 8, (Option.some Jvm.ClassFile.FieldType.int))
theorem d_X10_spread_0 : decode M_X10_spread.2.1 0 = .ok (.iconst 0, 1) := by decide +kernel
theorem d_X10_spread_1 : decode M_X10_spread.2.1 1 = .ok (.istore 4, 2) := by decide +kernel
theorem d_X10_spread_3 : decode M_X10_spread.2.1 3 = .ok (.sipush 12000, 3) := by decide +kernel
theorem d_X10_spread_6 : decode M_X10_spread.2.1 6 = .ok (.istore 5, 2) := by decide +kernel
theorem d_X10_spread_8 : decode M_X10_spread.2.1 8 = .ok (.iconst 0, 1) := by decide +kernel
theorem d_X10_spread_9 : decode M_X10_spread.2.1 9 = .ok (.istore 6, 2) := by decide +kernel
theorem d_X10_spread_11 : decode M_X10_spread.2.1 11 = .ok (.iload 6, 2) := by decide +kernel
theorem d_X10_spread_13 : decode M_X10_spread.2.1 13 = .ok (.aload_n 0, 1) := by decide +kernel
theorem d_X10_spread_14 : decode M_X10_spread.2.1 14 = .ok (.getfield 26, 3) := by decide +kernel
theorem d_X10_spread_17 : decode M_X10_spread.2.1 17 = .ok (.getfield 267, 3) := by decide +kernel
theorem d_X10_spread_20 : decode M_X10_spread.2.1 20 = .ok (.if_icmp .ge 46, 3) := by decide +kernel
theorem d_X10_spread_23 : decode M_X10_spread.2.1 23 = .ok (.iload_n 3, 1) := by decide +kernel
theorem d_X10_spread_24 : decode M_X10_spread.2.1 24 = .ok (.iload 6, 2) := by decide +kernel
theorem d_X10_spread_26 : decode M_X10_spread.2.1 26 = .ok (.invokestatic 288, 3) := by decide +kernel
theorem d_X10_spread_29 : decode M_X10_spread.2.1 29 = .ok (.ifCond .eq 31, 3) := by decide +kernel
theorem d_X10_spread_32 : decode M_X10_spread.2.1 32 = .ok (.aload_n 0, 1) := by decide +kernel
theorem d_X10_spread_33 : decode M_X10_spread.2.1 33 = .ok (.iload_n 1, 1) := by decide +kernel
theorem d_X10_spread_34 : decode M_X10_spread.2.1 34 = .ok (.iload 6, 2) := by decide +kernel
theorem d_X10_spread_36 : decode M_X10_spread.2.1 36 = .ok (.iload_n 2, 1) := by decide +kernel
theorem d_X10_spread_37 : decode M_X10_spread.2.1 37 = .ok (.invokevirtual 244, 3) := by decide +kernel
theorem d_X10_spread_40 : decode M_X10_spread.2.1 40 = .ok (.istore 7, 2) := by decide +kernel
theorem d_X10_spread_42 : decode M_X10_spread.2.1 42 = .ok (.iload 4, 2) := by decide +kernel
theorem d_X10_spread_44 : decode M_X10_spread.2.1 44 = .ok (.iload 7, 2) := by decide +kernel
theorem d_X10_spread_46 : decode M_X10_spread.2.1 46 = .ok (.invokestatic 313, 3) := by decide +kernel
theorem d_X10_spread_49 : decode M_X10_spread.2.1 49 = .ok (.istore 4, 2) := by decide +kernel
theorem d_X10_spread_51 : decode M_X10_spread.2.1 51 = .ok (.iload 5, 2) := by decide +kernel
theorem d_X10_spread_53 : decode M_X10_spread.2.1 53 = .ok (.iload 7, 2) := by decide +kernel
theorem d_X10_spread_55 : decode M_X10_spread.2.1 55 = .ok (.invokestatic 316, 3) := by decide +kernel
theorem d_X10_spread_58 : decode M_X10_spread.2.1 58 = .ok (.istore 5, 2) := by decide +kernel
theorem d_X10_spread_60 : decode M_X10_spread.2.1 60 = .ok (.iinc 6 1, 3) := by decide +kernel
theorem d_X10_spread_63 : decode M_X10_spread.2.1 63 = .ok (.goto (-52), 3) := by decide +kernel
theorem d_X10_spread_66 : decode M_X10_spread.2.1 66 = .ok (.iload 4, 2) := by decide +kernel
theorem d_X10_spread_68 : decode M_X10_spread.2.1 68 = .ok (.iload 5, 2) := by decide +kernel
theorem d_X10_spread_70 : decode M_X10_spread.2.1 70 = .ok (.isub, 1) := by decide +kernel
theorem d_X10_spread_71 : decode M_X10_spread.2.1 71 = .ok (.ireturn, 1) := by decide +kernel
theorem ce_X10_spread : zw_CeV M_X10_spread 3 := ⟨⟨⟨by decide +kernel, by decide +kernel, by decide +kernel⟩, (zw_mG (List.mem_of_getElem? (i := 1136) (by decide +kernel)) rfl), (zw_mG (List.mem_of_getElem? (i := 96) (by decide +kernel)) rfl), by decide, by decide +kernel⟩, (zw_mG (List.mem_of_getElem? (i := 1135) (by decide +kernel)) rfl), (zw_mG (List.mem_of_getElem? (i := 47) (by decide +kernel)) rfl)⟩
def j_X10_spread_60_11 (v0 : Nat) (v1 : Int32) (v2 : Int32) (v3 : Int32) (v4 : Int32) (v5 : Int32) (v6 : Int32) (I : zI) (R : zR) : Option ((Int32 × Int32 × Int32 × zI) ⊕ (Int32 × Int32 × zI)) :=
  zw_let (v6 + 1 : Int32) fun x6 => (some (.inl (v4, v5, x6, I)))
theorem j_X10_spread_60_11_ok (X : zw_X) (P : Option Value → aS → Prop) (v0 : Nat) (v1 : Int32) (v2 : Int32) (v3 : Int32) (v4 : Int32) (v5 : Int32) (v6 : Int32) (I : zI) (R : zR) (J : zJ) (o : (Int32 × Int32 × Int32 × zI) ⊕ (Int32 × Int32 × zI)) (hf : j_X10_spread_60_11 v0 v1 v2 v3 v4 v5 v6 I R = some o) (hk : (zw_se (fun t => zy_V X M_X10_spread 5 P 11 [.ref v0, .int v1, .int v2, .int v3, .int t.1, .int t.2.1, .int t.2.2.1, .null] [] (t.2.2.2, R, J)) (fun r => zy_V X M_X10_spread 5 P 66 [.null, .null, .null, .null, .int r.1, .int r.2.1, .null, .null] [] (r.2.2, R, J)) o)) : zy_V X M_X10_spread 5 P 60 [.ref v0, .int v1, .int v2, .int v3, .int v4, .int v5, .int v6, .null] [] (I, R, J) := by
  unfold j_X10_spread_60_11 at hf
  obtain ⟨x6, ex6, hf⟩ := zw_letE hf
  refine zx_iinc (pc := 60) (x2 := x6) (L2 := [.ref v0, .int v1, .int v2, .int v3, .int v4, .int v5, .int x6, .null]) d_X10_spread_60 (by decide) rfl zc_i_1 ex6 rfl ?_
  refine zv_goto (pc := 63) (tg := 11) d_X10_spread_63 (by decide) ?_
  cases hf
  exact zx_weak (zw_leS (zw_leS (zw_leS (zw_leS (zw_leS (zw_leS (zw_leS (zw_leN zw_leZ)))))))) hk
def s_X10_spread_11 (v0 : Nat) (v1 : Int32) (v2 : Int32) (v3 : Int32) (R : zR) (s : Int32 × Int32 × Int32 × zI) : Option ((Int32 × Int32 × Int32 × zI) ⊕ (Int32 × Int32 × zI)) :=
  zw_g (zw_gc v0 10) (zw_g (zw_gc (R v0 2) 1) (if (s.2.2.2 (R v0 2) 1) ≤ s.2.2.1 then some (.inr (s.1, s.2.1, s.2.2.2)) else (f_X10_isTold v3 s.2.2.1).bind fun q4 => (if q4 = 0 then j_X10_spread_60_11 v0 v1 v2 v3 s.1 s.2.1 s.2.2.1 s.2.2.2 R else (f_X10_brightOf v0 v1 s.2.2.1 v2 s.2.2.2 R).bind fun q7 => (zw_let ((if s.1 < q7.1 then q7.1 else s.1) : Int32) fun x8 => (zw_let ((if q7.1 < s.2.1 then q7.1 else s.2.1) : Int32) fun x9 => (j_X10_spread_60_11 v0 v1 v2 v3 x8 x9 s.2.2.1 q7.2 R))))))
theorem s_X10_spread_11_ok (X : zw_X) (P : Option Value → aS → Prop) (v0 : Nat) (v1 : Int32) (v2 : Int32) (v3 : Int32) (R : zR) (J : zJ) (s : Int32 × Int32 × Int32 × zI) (o : (Int32 × Int32 × Int32 × zI) ⊕ (Int32 × Int32 × zI)) (hf : s_X10_spread_11 v0 v1 v2 v3 R s = some o) (hk : (zw_se (fun t => zy_V X M_X10_spread 5 P 11 [.ref v0, .int v1, .int v2, .int v3, .int t.1, .int t.2.1, .int t.2.2.1, .null] [] (t.2.2.2, R, J)) (fun r => zy_V X M_X10_spread 5 P 66 [.null, .null, .null, .null, .int r.1, .int r.2.1, .null, .null] [] (r.2.2, R, J)) o)) : zy_V X M_X10_spread 5 P 11 [.ref v0, .int v1, .int v2, .int v3, .int s.1, .int s.2.1, .int s.2.2.1, .null] [] (s.2.2.2, R, J) := by
  unfold s_X10_spread_11 at hf
  refine zv_iload (pc := 11) d_X10_spread_11 rfl ?_
  refine zv_aload_n (pc := 13) d_X10_spread_13 rfl ?_
  obtain ⟨g1, hf⟩ := zw_gcE hf (by decide)
  obtain ⟨g2, hf⟩ := zw_gcE hf (by decide)
  refine zx_getR (pc := 14) d_X10_spread_14 lk_CutStones_26 (by decide) g1 g2 ?_
  refine zx_getI (pc := 17) d_X10_spread_17 lk_CutStones_267 (by decide) g2 ?_
  rcases zw_ifE hf with ⟨c3, hf⟩ | ⟨c3, hf⟩
  · refine zv_icmp_ge (pc := 20) (tg := 66) d_X10_spread_20 (by decide) (fun _ => ?_) (fun q => absurd c3 q)
    cases hf
    exact zx_weak (zw_leN (zw_leN (zw_leN (zw_leN (zw_leS (zw_leS (zw_leN (zw_leN zw_leZ)))))))) hk
  · refine zv_icmp_ge (pc := 20) (tg := 66) d_X10_spread_20 (by decide) (fun q => absurd q c3) (fun _ => ?_)
    refine zv_iload_n (pc := 23) d_X10_spread_23 rfl ?_
    refine zv_iload (pc := 24) d_X10_spread_24 rfl ?_
    obtain ⟨q4, hq4, hf⟩ := zw_bdE hf
    refine zx_callS (pc := 26) (As := [.int v3, .int s.2.2.1]) (st := []) (d2 := 0) (M2 := M_X10_isTold) (P2 := (fun r S => r = (some (.int q4)) ∧ S = (s.2.2.2, R, J))) d_X10_spread_26 (zw_mG (List.mem_of_getElem? (i := 1054) (by decide +kernel)) rfl) ce_X10_isTold (Nat.le_of_ble_eq_true rfl) rfl (Nat.le_of_ble_eq_true rfl) (by decide) (c_X10_isTold X v3 s.2.2.1 s.2.2.2 R J _ hq4 ⟨rfl, rfl⟩) ?_
    rintro _ _ ⟨rfl, rfl⟩
    show zy_V X M_X10_spread 5 P (26 + 3) [.ref v0, .int v1, .int v2, .int v3, .int s.1, .int s.2.1, .int s.2.2.1, .null] [.int q4] (s.2.2.2, R, J)
    rcases zw_ifE hf with ⟨c5, hf⟩ | ⟨c5, hf⟩
    · refine zv_if_eq (pc := 29) (tg := 60) d_X10_spread_29 (by decide) (fun _ => ?_) (fun q => absurd c5 q)
      exact zx_weak (zw_leS (zw_leS (zw_leS (zw_leS (zw_leS (zw_leS (zw_leS (zw_leN zw_leZ)))))))) (j_X10_spread_60_11_ok X P v0 v1 v2 v3 s.1 s.2.1 s.2.2.1 s.2.2.2 R J _ hf hk)
    · refine zv_if_eq (pc := 29) (tg := 60) d_X10_spread_29 (by decide) (fun q => absurd q c5) (fun _ => ?_)
      refine zv_aload_n (pc := 32) d_X10_spread_32 rfl ?_
      refine zv_iload_n (pc := 33) d_X10_spread_33 rfl ?_
      refine zv_iload (pc := 34) d_X10_spread_34 rfl ?_
      refine zv_iload_n (pc := 36) d_X10_spread_36 rfl ?_
      obtain ⟨q7, hq7, hf⟩ := zw_bdE hf
      refine zx_callV (pc := 37) (As := [.int v1, .int s.2.2.1, .int v2]) (o := v0) (st := []) (d2 := 4) (M2 := M_X10_brightOf) (P2 := (fun r S => r = (some (.int q7.1)) ∧ S = (q7.2, R, J))) d_X10_spread_37 (zw_mG (List.mem_of_getElem? (i := 1094) (by decide +kernel)) rfl) ce_X10_brightOf (zw_RvK g1 rfl rfl) (Nat.le_of_ble_eq_true rfl) rfl (Nat.le_of_ble_eq_true rfl) (by decide) (c_X10_brightOf X v0 v1 s.2.2.1 v2 s.2.2.2 R J _ hq7 ⟨rfl, rfl⟩) ?_
      rintro _ _ ⟨rfl, rfl⟩
      show zy_V X M_X10_spread 5 P (37 + 3) [.ref v0, .int v1, .int v2, .int v3, .int s.1, .int s.2.1, .int s.2.2.1, .null] [.int q7.1] (q7.2, R, J)
      refine zx_istore (pc := 40) (x2 := q7.1) (L2 := [.ref v0, .int v1, .int v2, .int v3, .int s.1, .int s.2.1, .int s.2.2.1, .int q7.1]) d_X10_spread_40 (by decide) rfl rfl ?_
      refine zv_iload (pc := 42) d_X10_spread_42 rfl ?_
      refine zv_iload (pc := 44) d_X10_spread_44 rfl ?_
      refine zv_max (pc := 46) d_X10_spread_46 (zw_mG (List.mem_of_getElem? (i := 1137) (by decide +kernel)) rfl) (by decide) (Nat.le_of_ble_eq_true rfl) ⟨Nat.le_refl _, Nat.le_refl _⟩ ?_
      obtain ⟨x8, ex8, hf⟩ := zw_letE hf
      rw [← ex8]
      refine zx_istore (pc := 49) (x2 := x8) (L2 := [.ref v0, .int v1, .int v2, .int v3, .int x8, .int s.2.1, .int s.2.2.1, .int q7.1]) d_X10_spread_49 (by decide) rfl rfl ?_
      refine zv_iload (pc := 51) d_X10_spread_51 rfl ?_
      refine zv_iload (pc := 53) d_X10_spread_53 rfl ?_
      refine zv_min (pc := 55) d_X10_spread_55 (zw_mG (List.mem_of_getElem? (i := 1138) (by decide +kernel)) rfl) (by decide) (Nat.le_of_ble_eq_true rfl) ⟨Nat.le_refl _, Nat.le_refl _⟩ ?_
      obtain ⟨x9, ex9, hf⟩ := zw_letE hf
      rw [← ex9]
      refine zx_istore (pc := 58) (x2 := x9) (L2 := [.ref v0, .int v1, .int v2, .int v3, .int x8, .int x9, .int s.2.2.1, .int q7.1]) d_X10_spread_58 (by decide) rfl rfl ?_
      exact zx_weak (zw_leS (zw_leS (zw_leS (zw_leS (zw_leS (zw_leS (zw_leS (zw_leN zw_leZ)))))))) (j_X10_spread_60_11_ok X P v0 v1 v2 v3 x8 x9 s.2.2.1 q7.2 R J _ hf hk)
theorem s_X10_spread_11_lp (X : zw_X) (P : Option Value → aS → Prop) (v0 : Nat) (v1 : Int32) (v2 : Int32) (v3 : Int32) (R : zR) (J : zJ) (n : Nat) (s : Int32 × Int32 × Int32 × zI) (r : Int32 × Int32 × zI) (h : zw_it (s_X10_spread_11 v0 v1 v2 v3 R) n s = some r) (hq : zy_V X M_X10_spread 5 P 66 [.null, .null, .null, .null, .int r.1, .int r.2.1, .null, .null] [] (r.2.2, R, J)) : zy_V X M_X10_spread 5 P 11 [.ref v0, .int v1, .int v2, .int v3, .int s.1, .int s.2.1, .int s.2.2.1, .null] [] (s.2.2.2, R, J) :=
  zw_itE (A := (fun t : Int32 × Int32 × Int32 × zI => zy_V X M_X10_spread 5 P 11 [.ref v0, .int v1, .int v2, .int v3, .int t.1, .int t.2.1, .int t.2.2.1, .null] [] (t.2.2.2, R, J))) (Q := (fun r : Int32 × Int32 × zI => zy_V X M_X10_spread 5 P 66 [.null, .null, .null, .null, .int r.1, .int r.2.1, .null, .null] [] (r.2.2, R, J))) (fun s o h1 h2 => s_X10_spread_11_ok X P v0 v1 v2 v3 R J s o h1 h2) n s r h hq
def f_X10_spread (v0 : Nat) (v1 : Int32) (v2 : Int32) (v3 : Int32) (I : zI) (R : zR) : Option (Int32 × zI) :=
  (zw_it (s_X10_spread_11 v0 v1 v2 v3 R) 1000000 (0, 12000, 0, I)).bind fun q10 => (some ((q10.1 - q10.2.1), q10.2.2))
theorem c_X10_spread (X : zw_X) (v0 : Nat) (v1 : Int32) (v2 : Int32) (v3 : Int32) (I : zI) (R : zR) (J : zJ) {P : Option Value → aS → Prop} (o : Int32 × zI) (hf : f_X10_spread v0 v1 v2 v3 I R = some o) (hk : P (some (.int o.1)) (o.2, R, J)) : zw_C X M_X10_spread 5 0 0 199 [.ref v0, .int v1, .int v2, .int v3] (I, R, J) P := by
  show zy_V X M_X10_spread 5 P 0 [.ref v0, .int v1, .int v2, .int v3, .null, .null, .null, .null] [] (I, R, J)
  unfold f_X10_spread at hf
  refine zv_iconst (pc := 0) d_X10_spread_0 zc_i_0 ?_
  refine zx_istore (pc := 1) (x2 := 0) (L2 := [.ref v0, .int v1, .int v2, .int v3, .int 0, .null, .null, .null]) d_X10_spread_1 (by decide) rfl rfl ?_
  refine zv_sipush (pc := 3) d_X10_spread_3 zc_s_12000 ?_
  refine zx_istore (pc := 6) (x2 := 12000) (L2 := [.ref v0, .int v1, .int v2, .int v3, .int 0, .int 12000, .null, .null]) d_X10_spread_6 (by decide) rfl rfl ?_
  refine zv_iconst (pc := 8) d_X10_spread_8 zc_i_0 ?_
  refine zx_istore (pc := 9) (x2 := 0) (L2 := [.ref v0, .int v1, .int v2, .int v3, .int 0, .int 12000, .int 0, .null]) d_X10_spread_9 (by decide) rfl rfl ?_
  obtain ⟨q10, hq10, hf⟩ := zw_bdE hf
  refine zx_weak (L' := [.ref v0, .int v1, .int v2, .int v3, .int 0, .int 12000, .int 0, .null]) (zw_leS (zw_leS (zw_leS (zw_leS (zw_leS (zw_leS (zw_leS (zw_leN zw_leZ)))))))) (s_X10_spread_11_lp X P v0 v1 v2 v3 R J _ _ _ hq10 ?_)
  show zy_V X M_X10_spread 5 P 66 [.null, .null, .null, .null, .int q10.1, .int q10.2.1, .null, .null] [] (q10.2.2, R, J)
  refine zv_iload (pc := 66) d_X10_spread_66 rfl ?_
  refine zv_iload (pc := 68) d_X10_spread_68 rfl ?_
  refine zv_isub (pc := 70) d_X10_spread_70 ?_
  cases hf
  exact zx_iret (pc := 71) d_X10_spread_71 rfl hk
abbrev M_X11_brightOf : zw_M := (⟨"CutStonesModel", "brightOf", "(III)I"⟩, prog_13_method_79_code, 4, (Option.some Jvm.ClassFile.FieldType.int))
theorem d_X11_brightOf_0 : decode M_X11_brightOf.2.1 0 = .ok (.aload_n 0, 1) := by decide +kernel
theorem d_X11_brightOf_1 : decode M_X11_brightOf.2.1 1 = .ok (.bipush 10, 2) := by decide +kernel
theorem d_X11_brightOf_3 : decode M_X11_brightOf.2.1 3 = .ok (.aload_n 0, 1) := by decide +kernel
theorem d_X11_brightOf_4 : decode M_X11_brightOf.2.1 4 = .ok (.getfield 248, 3) := by decide +kernel
theorem d_X11_brightOf_7 : decode M_X11_brightOf.2.1 7 = .ok (.imul, 1) := by decide +kernel
theorem d_X11_brightOf_8 : decode M_X11_brightOf.2.1 8 = .ok (.iload_n 1, 1) := by decide +kernel
theorem d_X11_brightOf_9 : decode M_X11_brightOf.2.1 9 = .ok (.iadd, 1) := by decide +kernel
theorem d_X11_brightOf_10 : decode M_X11_brightOf.2.1 10 = .ok (.iconst 4, 1) := by decide +kernel
theorem d_X11_brightOf_11 : decode M_X11_brightOf.2.1 11 = .ok (.aload_n 0, 1) := by decide +kernel
theorem d_X11_brightOf_12 : decode M_X11_brightOf.2.1 12 = .ok (.getfield 248, 3) := by decide +kernel
theorem d_X11_brightOf_15 : decode M_X11_brightOf.2.1 15 = .ok (.imul, 1) := by decide +kernel
theorem d_X11_brightOf_16 : decode M_X11_brightOf.2.1 16 = .ok (.iload_n 2, 1) := by decide +kernel
theorem d_X11_brightOf_17 : decode M_X11_brightOf.2.1 17 = .ok (.iadd, 1) := by decide +kernel
theorem d_X11_brightOf_18 : decode M_X11_brightOf.2.1 18 = .ok (.iload_n 3, 1) := by decide +kernel
theorem d_X11_brightOf_19 : decode M_X11_brightOf.2.1 19 = .ok (.sipush 1000, 3) := by decide +kernel
theorem d_X11_brightOf_22 : decode M_X11_brightOf.2.1 22 = .ok (.iconst 0, 1) := by decide +kernel
theorem d_X11_brightOf_23 : decode M_X11_brightOf.2.1 23 = .ok (.iconst 0, 1) := by decide +kernel
theorem d_X11_brightOf_24 : decode M_X11_brightOf.2.1 24 = .ok (.iconst 1, 1) := by decide +kernel
theorem d_X11_brightOf_25 : decode M_X11_brightOf.2.1 25 = .ok (.iconst 0, 1) := by decide +kernel
theorem d_X11_brightOf_26 : decode M_X11_brightOf.2.1 26 = .ok (.invokevirtual 412, 3) := by decide +kernel
theorem d_X11_brightOf_29 : decode M_X11_brightOf.2.1 29 = .ok (.aload_n 0, 1) := by decide +kernel
theorem d_X11_brightOf_30 : decode M_X11_brightOf.2.1 30 = .ok (.getfield 125, 3) := by decide +kernel
theorem d_X11_brightOf_33 : decode M_X11_brightOf.2.1 33 = .ok (.iconst 0, 1) := by decide +kernel
theorem d_X11_brightOf_34 : decode M_X11_brightOf.2.1 34 = .ok (.iaload, 1) := by decide +kernel
theorem d_X11_brightOf_35 : decode M_X11_brightOf.2.1 35 = .ok (.ireturn, 1) := by decide +kernel
theorem ce_X11_brightOf : zw_CeV M_X11_brightOf 3 := ⟨⟨⟨by decide +kernel, by decide +kernel, by decide +kernel⟩, (zw_mG (List.mem_of_getElem? (i := 1696) (by decide +kernel)) rfl), (zw_mG (List.mem_of_getElem? (i := 108) (by decide +kernel)) rfl), by decide, by decide +kernel⟩, (zw_mG (List.mem_of_getElem? (i := 1695) (by decide +kernel)) rfl), (zw_mG (List.mem_of_getElem? (i := 90) (by decide +kernel)) rfl)⟩
def f_X11_brightOf (v0 : Nat) (v1 : Int32) (v2 : Int32) (v3 : Int32) (I : zI) (R : zR) : Option (Int32 × zI) :=
  zw_g (zw_gc v0 11) ((f_X11_shines v0 ((10 * (I v0 18)) + v1) ((4 * (I v0 18)) + v2) v3 1000 0 0 1 0 I R).bind fun q2 => (zw_g (zw_gc (R v0 52) 13) (zw_g (zw_in 0 (zw_SH (R v0 52)).2) (some ((q2 (R v0 52) (Int32.toNatClampNeg 0)), q2)))))
theorem c_X11_brightOf (X : zw_X) (v0 : Nat) (v1 : Int32) (v2 : Int32) (v3 : Int32) (I : zI) (R : zR) (J : zJ) {P : Option Value → aS → Prop} (o : Int32 × zI) (hf : f_X11_brightOf v0 v1 v2 v3 I R = some o) (hk : P (some (.int o.1)) (o.2, R, J)) : zw_C X M_X11_brightOf 5 0 0 199 [.ref v0, .int v1, .int v2, .int v3] (I, R, J) P := by
  show zy_V X M_X11_brightOf 5 P 0 [.ref v0, .int v1, .int v2, .int v3] [] (I, R, J)
  unfold f_X11_brightOf at hf
  refine zv_aload_n (pc := 0) d_X11_brightOf_0 rfl ?_
  refine zv_bipush (pc := 1) d_X11_brightOf_1 zc_b_10 ?_
  refine zv_aload_n (pc := 3) d_X11_brightOf_3 rfl ?_
  obtain ⟨g1, hf⟩ := zw_gcE hf (by decide)
  refine zx_getI (pc := 4) d_X11_brightOf_4 lk_CutStonesModel_248 (by decide) g1 ?_
  refine zv_imul (pc := 7) d_X11_brightOf_7 ?_
  refine zv_iload_n (pc := 8) d_X11_brightOf_8 rfl ?_
  refine zv_iadd (pc := 9) d_X11_brightOf_9 ?_
  refine zv_iconst (pc := 10) d_X11_brightOf_10 zc_i_4 ?_
  refine zv_aload_n (pc := 11) d_X11_brightOf_11 rfl ?_
  refine zx_getI (pc := 12) d_X11_brightOf_12 lk_CutStonesModel_248 (by decide) g1 ?_
  refine zv_imul (pc := 15) d_X11_brightOf_15 ?_
  refine zv_iload_n (pc := 16) d_X11_brightOf_16 rfl ?_
  refine zv_iadd (pc := 17) d_X11_brightOf_17 ?_
  refine zv_iload_n (pc := 18) d_X11_brightOf_18 rfl ?_
  refine zv_sipush (pc := 19) d_X11_brightOf_19 zc_s_1000 ?_
  refine zv_iconst (pc := 22) d_X11_brightOf_22 zc_i_0 ?_
  refine zv_iconst (pc := 23) d_X11_brightOf_23 zc_i_0 ?_
  refine zv_iconst (pc := 24) d_X11_brightOf_24 zc_i_1 ?_
  refine zv_iconst (pc := 25) d_X11_brightOf_25 zc_i_0 ?_
  obtain ⟨q2, hq2, hf⟩ := zw_bdE hf
  refine zx_callV (pc := 26) (As := [.int ((10 * (I v0 18)) + v1), .int ((4 * (I v0 18)) + v2), .int v3, .int 1000, .int 0, .int 0, .int 1, .int 0]) (o := v0) (st := []) (d2 := 4) (M2 := M_X11_shines) (P2 := (fun r S => r = none ∧ S = (q2, R, J))) d_X11_brightOf_26 (zw_mG (List.mem_of_getElem? (i := 1603) (by decide +kernel)) rfl) ce_X11_shines (zw_RvK g1 rfl rfl) (Nat.le_of_ble_eq_true rfl) rfl (Nat.le_of_ble_eq_true rfl) (by decide) (c_X11_shines X v0 ((10 * (I v0 18)) + v1) ((4 * (I v0 18)) + v2) v3 1000 0 0 1 0 I R J _ hq2 ⟨rfl, rfl⟩) ?_
  rintro _ _ ⟨rfl, rfl⟩
  show zy_V X M_X11_brightOf 5 P (26 + 3) [.ref v0, .int v1, .int v2, .int v3] [] (q2, R, J)
  refine zv_aload_n (pc := 29) d_X11_brightOf_29 rfl ?_
  obtain ⟨g3, hf⟩ := zw_gcE hf (by decide)
  refine zx_getR (pc := 30) d_X11_brightOf_30 lk_CutStonesModel_125 (by decide) g1 g3 ?_
  refine zv_iconst (pc := 33) d_X11_brightOf_33 zc_i_0 ?_
  obtain ⟨i4, hf⟩ := zw_inE hf
  refine zx_iald (pc := 34) d_X11_brightOf_34 g3 i4 ?_
  cases hf
  exact zx_iret (pc := 35) d_X11_brightOf_35 rfl hk
abbrev M_X11_prices : zw_M := (⟨"CutStonesModel", "prices", "(II)V"⟩, prog_13_method_73_code, 4, (Option.none : Option Jvm.ClassFile.FieldType))
theorem d_X11_prices_0 : decode M_X11_prices.2.1 0 = .ok (.iconst 0, 1) := by decide +kernel
theorem d_X11_prices_1 : decode M_X11_prices.2.1 1 = .ok (.istore_n 3, 1) := by decide +kernel
theorem d_X11_prices_2 : decode M_X11_prices.2.1 2 = .ok (.iload_n 3, 1) := by decide +kernel
theorem d_X11_prices_3 : decode M_X11_prices.2.1 3 = .ok (.aload_n 0, 1) := by decide +kernel
theorem d_X11_prices_4 : decode M_X11_prices.2.1 4 = .ok (.getfield 58, 3) := by decide +kernel
theorem d_X11_prices_7 : decode M_X11_prices.2.1 7 = .ok (.aload_n 0, 1) := by decide +kernel
theorem d_X11_prices_8 : decode M_X11_prices.2.1 8 = .ok (.getfield 248, 3) := by decide +kernel
theorem d_X11_prices_11 : decode M_X11_prices.2.1 11 = .ok (.iaload, 1) := by decide +kernel
theorem d_X11_prices_12 : decode M_X11_prices.2.1 12 = .ok (.if_icmp .ge 56, 3) := by decide +kernel
theorem d_X11_prices_15 : decode M_X11_prices.2.1 15 = .ok (.iload_n 1, 1) := by decide +kernel
theorem d_X11_prices_16 : decode M_X11_prices.2.1 16 = .ok (.iload_n 3, 1) := by decide +kernel
theorem d_X11_prices_17 : decode M_X11_prices.2.1 17 = .ok (.ishr, 1) := by decide +kernel
theorem d_X11_prices_18 : decode M_X11_prices.2.1 18 = .ok (.iconst 1, 1) := by decide +kernel
theorem d_X11_prices_19 : decode M_X11_prices.2.1 19 = .ok (.iand, 1) := by decide +kernel
theorem d_X11_prices_20 : decode M_X11_prices.2.1 20 = .ok (.ifCond .ne 6, 3) := by decide +kernel
theorem d_X11_prices_23 : decode M_X11_prices.2.1 23 = .ok (.goto 39, 3) := by decide +kernel
theorem d_X11_prices_26 : decode M_X11_prices.2.1 26 = .ok (.aload_n 0, 1) := by decide +kernel
theorem d_X11_prices_27 : decode M_X11_prices.2.1 27 = .ok (.bipush 10, 2) := by decide +kernel
theorem d_X11_prices_29 : decode M_X11_prices.2.1 29 = .ok (.aload_n 0, 1) := by decide +kernel
theorem d_X11_prices_30 : decode M_X11_prices.2.1 30 = .ok (.getfield 248, 3) := by decide +kernel
theorem d_X11_prices_33 : decode M_X11_prices.2.1 33 = .ok (.imul, 1) := by decide +kernel
theorem d_X11_prices_34 : decode M_X11_prices.2.1 34 = .ok (.iload_n 3, 1) := by decide +kernel
theorem d_X11_prices_35 : decode M_X11_prices.2.1 35 = .ok (.iadd, 1) := by decide +kernel
theorem d_X11_prices_36 : decode M_X11_prices.2.1 36 = .ok (.aload_n 0, 1) := by decide +kernel
theorem d_X11_prices_37 : decode M_X11_prices.2.1 37 = .ok (.iload_n 2, 1) := by decide +kernel
theorem d_X11_prices_38 : decode M_X11_prices.2.1 38 = .ok (.invokevirtual 393, 3) := by decide +kernel
theorem d_X11_prices_41 : decode M_X11_prices.2.1 41 = .ok (.iconst 0, 1) := by decide +kernel
theorem d_X11_prices_42 : decode M_X11_prices.2.1 42 = .ok (.sipush 1000, 3) := by decide +kernel
theorem d_X11_prices_45 : decode M_X11_prices.2.1 45 = .ok (.iconst 0, 1) := by decide +kernel
theorem d_X11_prices_46 : decode M_X11_prices.2.1 46 = .ok (.iconst 0, 1) := by decide +kernel
theorem d_X11_prices_47 : decode M_X11_prices.2.1 47 = .ok (.iconst 1, 1) := by decide +kernel
theorem d_X11_prices_48 : decode M_X11_prices.2.1 48 = .ok (.iconst 0, 1) := by decide +kernel
theorem d_X11_prices_49 : decode M_X11_prices.2.1 49 = .ok (.invokevirtual 412, 3) := by decide +kernel
theorem d_X11_prices_52 : decode M_X11_prices.2.1 52 = .ok (.aload_n 0, 1) := by decide +kernel
theorem d_X11_prices_53 : decode M_X11_prices.2.1 53 = .ok (.getfield 152, 3) := by decide +kernel
theorem d_X11_prices_56 : decode M_X11_prices.2.1 56 = .ok (.iload_n 3, 1) := by decide +kernel
theorem d_X11_prices_57 : decode M_X11_prices.2.1 57 = .ok (.aload_n 0, 1) := by decide +kernel
theorem d_X11_prices_58 : decode M_X11_prices.2.1 58 = .ok (.invokevirtual 426, 3) := by decide +kernel
theorem d_X11_prices_61 : decode M_X11_prices.2.1 61 = .ok (.iastore, 1) := by decide +kernel
theorem d_X11_prices_62 : decode M_X11_prices.2.1 62 = .ok (.iinc 3 1, 3) := by decide +kernel
theorem d_X11_prices_65 : decode M_X11_prices.2.1 65 = .ok (.goto (-63), 3) := by decide +kernel
theorem d_X11_prices_68 : decode M_X11_prices.2.1 68 = .ok (.return_, 1) := by decide +kernel
theorem ce_X11_prices : zw_CeV M_X11_prices 2 := ⟨⟨⟨by decide +kernel, by decide +kernel, by decide +kernel⟩, (zw_mG (List.mem_of_getElem? (i := 1668) (by decide +kernel)) rfl), (zw_mG (List.mem_of_getElem? (i := 108) (by decide +kernel)) rfl), by decide, by decide +kernel⟩, (zw_mG (List.mem_of_getElem? (i := 1667) (by decide +kernel)) rfl), (zw_mG (List.mem_of_getElem? (i := 88) (by decide +kernel)) rfl)⟩
def j_X11_prices_62_2 (v0 : Nat) (v1 : Int32) (v2 : Int32) (v3 : Int32) (I : zI) (R : zR) : Option ((Int32 × zI) ⊕ (zI)) :=
  zw_let (v3 + 1 : Int32) fun x12 => (some (.inl (x12, I)))
theorem j_X11_prices_62_2_ok (X : zw_X) (P : Option Value → aS → Prop) (v0 : Nat) (v1 : Int32) (v2 : Int32) (v3 : Int32) (I : zI) (R : zR) (J : zJ) (o : (Int32 × zI) ⊕ (zI)) (hf : j_X11_prices_62_2 v0 v1 v2 v3 I R = some o) (hk : (zw_se (fun t => zy_V X M_X11_prices 5 P 2 [.ref v0, .int v1, .int v2, .int t.1] [] (t.2, R, J)) (fun r => zy_V X M_X11_prices 5 P 68 [.null, .null, .null, .null] [] (r, R, J)) o)) : zy_V X M_X11_prices 5 P 62 [.ref v0, .int v1, .int v2, .int v3] [] (I, R, J) := by
  unfold j_X11_prices_62_2 at hf
  obtain ⟨x12, ex12, hf⟩ := zw_letE hf
  refine zx_iinc (pc := 62) (x2 := x12) (L2 := [.ref v0, .int v1, .int v2, .int x12]) d_X11_prices_62 (by decide) rfl zc_i_1 ex12 rfl ?_
  refine zv_goto (pc := 65) (tg := 2) d_X11_prices_65 (by decide) ?_
  cases hf
  exact zx_weak (zw_leS (zw_leS (zw_leS (zw_leS zw_leZ)))) hk
def s_X11_prices_2 (v0 : Nat) (v1 : Int32) (v2 : Int32) (R : zR) (s : Int32 × zI) : Option ((Int32 × zI) ⊕ (zI)) :=
  zw_g (zw_gc v0 11) (zw_g (zw_gc (R v0 26) 13) (zw_g (zw_in (s.2 v0 18) (zw_SH (R v0 26)).2) (if (s.2 (R v0 26) (Int32.toNatClampNeg (s.2 v0 18))) ≤ s.1 then some (.inr s.2) else if ¬ ((v1 >>> (s.1 &&& 31)) &&& 1) = 0 then (f_X11_stuffRow v0 v2 s.2 R).bind fun q6 => ((f_X11_shines v0 ((10 * (s.2 v0 18)) + s.1) q6 0 1000 0 0 1 0 s.2 R).bind fun q7 => (zw_g (zw_gc (R v0 72) 13) ((f_X11_priceNow v0 q7 R).bind fun q9 => (zw_g (zw_in s.1 (zw_SH (R v0 72)).2) (zw_let (zw_u q9.2 (R v0 72) (Int32.toNatClampNeg s.1) q9.1 : zI) fun I11 => (j_X11_prices_62_2 v0 v1 v2 s.1 I11 R)))))) else j_X11_prices_62_2 v0 v1 v2 s.1 s.2 R)))
theorem s_X11_prices_2_ok (X : zw_X) (P : Option Value → aS → Prop) (v0 : Nat) (v1 : Int32) (v2 : Int32) (R : zR) (J : zJ) (s : Int32 × zI) (o : (Int32 × zI) ⊕ (zI)) (hf : s_X11_prices_2 v0 v1 v2 R s = some o) (hk : (zw_se (fun t => zy_V X M_X11_prices 5 P 2 [.ref v0, .int v1, .int v2, .int t.1] [] (t.2, R, J)) (fun r => zy_V X M_X11_prices 5 P 68 [.null, .null, .null, .null] [] (r, R, J)) o)) : zy_V X M_X11_prices 5 P 2 [.ref v0, .int v1, .int v2, .int s.1] [] (s.2, R, J) := by
  unfold s_X11_prices_2 at hf
  refine zv_iload_n (pc := 2) d_X11_prices_2 rfl ?_
  refine zv_aload_n (pc := 3) d_X11_prices_3 rfl ?_
  obtain ⟨g1, hf⟩ := zw_gcE hf (by decide)
  obtain ⟨g2, hf⟩ := zw_gcE hf (by decide)
  refine zx_getR (pc := 4) d_X11_prices_4 lk_CutStonesModel_58 (by decide) g1 g2 ?_
  refine zv_aload_n (pc := 7) d_X11_prices_7 rfl ?_
  refine zx_getI (pc := 8) d_X11_prices_8 lk_CutStonesModel_248 (by decide) g1 ?_
  obtain ⟨i3, hf⟩ := zw_inE hf
  refine zx_iald (pc := 11) d_X11_prices_11 g2 i3 ?_
  rcases zw_ifE hf with ⟨c4, hf⟩ | ⟨c4, hf⟩
  · refine zv_icmp_ge (pc := 12) (tg := 68) d_X11_prices_12 (by decide) (fun _ => ?_) (fun q => absurd c4 q)
    cases hf
    exact zx_weak (zw_leN (zw_leN (zw_leN (zw_leN zw_leZ)))) hk
  · refine zv_icmp_ge (pc := 12) (tg := 68) d_X11_prices_12 (by decide) (fun q => absurd q c4) (fun _ => ?_)
    refine zv_iload_n (pc := 15) d_X11_prices_15 rfl ?_
    refine zv_iload_n (pc := 16) d_X11_prices_16 rfl ?_
    refine zv_ishr (pc := 17) d_X11_prices_17 ?_
    refine zv_iconst (pc := 18) d_X11_prices_18 zc_i_1 ?_
    refine zv_iand (pc := 19) d_X11_prices_19 ?_
    rcases zw_ifE hf with ⟨c5, hf⟩ | ⟨c5, hf⟩
    · refine zv_if_ne (pc := 20) (tg := 26) d_X11_prices_20 (by decide) (fun _ => ?_) (fun q => absurd q c5)
      refine zv_aload_n (pc := 26) d_X11_prices_26 rfl ?_
      refine zv_bipush (pc := 27) d_X11_prices_27 zc_b_10 ?_
      refine zv_aload_n (pc := 29) d_X11_prices_29 rfl ?_
      refine zx_getI (pc := 30) d_X11_prices_30 lk_CutStonesModel_248 (by decide) g1 ?_
      refine zv_imul (pc := 33) d_X11_prices_33 ?_
      refine zv_iload_n (pc := 34) d_X11_prices_34 rfl ?_
      refine zv_iadd (pc := 35) d_X11_prices_35 ?_
      refine zv_aload_n (pc := 36) d_X11_prices_36 rfl ?_
      refine zv_iload_n (pc := 37) d_X11_prices_37 rfl ?_
      obtain ⟨q6, hq6, hf⟩ := zw_bdE hf
      refine zx_callV (pc := 38) (As := [.int v2]) (o := v0) (st := [.int ((10 * (s.2 v0 18)) + s.1), .ref v0]) (d2 := 1) (M2 := M_X11_stuffRow) (P2 := (fun r S => r = (some (.int q6)) ∧ S = (s.2, R, J))) d_X11_prices_38 (zw_mG (List.mem_of_getElem? (i := 1552) (by decide +kernel)) rfl) ce_X11_stuffRow (zw_RvK g1 rfl rfl) (Nat.le_of_ble_eq_true rfl) rfl (Nat.le_of_ble_eq_true rfl) (by decide) (c_X11_stuffRow X v0 v2 s.2 R J _ hq6 ⟨rfl, rfl⟩) ?_
      rintro _ _ ⟨rfl, rfl⟩
      show zy_V X M_X11_prices 5 P (38 + 3) [.ref v0, .int v1, .int v2, .int s.1] [.int q6, .int ((10 * (s.2 v0 18)) + s.1), .ref v0] (s.2, R, J)
      refine zv_iconst (pc := 41) d_X11_prices_41 zc_i_0 ?_
      refine zv_sipush (pc := 42) d_X11_prices_42 zc_s_1000 ?_
      refine zv_iconst (pc := 45) d_X11_prices_45 zc_i_0 ?_
      refine zv_iconst (pc := 46) d_X11_prices_46 zc_i_0 ?_
      refine zv_iconst (pc := 47) d_X11_prices_47 zc_i_1 ?_
      refine zv_iconst (pc := 48) d_X11_prices_48 zc_i_0 ?_
      obtain ⟨q7, hq7, hf⟩ := zw_bdE hf
      refine zx_callV (pc := 49) (As := [.int ((10 * (s.2 v0 18)) + s.1), .int q6, .int 0, .int 1000, .int 0, .int 0, .int 1, .int 0]) (o := v0) (st := []) (d2 := 4) (M2 := M_X11_shines) (P2 := (fun r S => r = none ∧ S = (q7, R, J))) d_X11_prices_49 (zw_mG (List.mem_of_getElem? (i := 1603) (by decide +kernel)) rfl) ce_X11_shines (zw_RvK g1 rfl rfl) (Nat.le_of_ble_eq_true rfl) rfl (Nat.le_of_ble_eq_true rfl) (by decide) (c_X11_shines X v0 ((10 * (s.2 v0 18)) + s.1) q6 0 1000 0 0 1 0 s.2 R J _ hq7 ⟨rfl, rfl⟩) ?_
      rintro _ _ ⟨rfl, rfl⟩
      show zy_V X M_X11_prices 5 P (49 + 3) [.ref v0, .int v1, .int v2, .int s.1] [] (q7, R, J)
      refine zv_aload_n (pc := 52) d_X11_prices_52 rfl ?_
      obtain ⟨g8, hf⟩ := zw_gcE hf (by decide)
      refine zx_getR (pc := 53) d_X11_prices_53 lk_CutStonesModel_152 (by decide) g1 g8 ?_
      refine zv_iload_n (pc := 56) d_X11_prices_56 rfl ?_
      refine zv_aload_n (pc := 57) d_X11_prices_57 rfl ?_
      obtain ⟨q9, hq9, hf⟩ := zw_bdE hf
      refine zx_callV (pc := 58) (As := []) (o := v0) (st := [.int s.1, .ref (R v0 72)]) (d2 := 3) (M2 := M_X11_priceNow) (P2 := (fun r S => r = (some (.int q9.1)) ∧ S = (q9.2, R, J))) d_X11_prices_58 (zw_mG (List.mem_of_getElem? (i := 1640) (by decide +kernel)) rfl) ce_X11_priceNow (zw_RvK g1 rfl rfl) (Nat.le_of_ble_eq_true rfl) rfl (Nat.le_of_ble_eq_true rfl) (by decide) (c_X11_priceNow X v0 q7 R J _ hq9 ⟨rfl, rfl⟩) ?_
      rintro _ _ ⟨rfl, rfl⟩
      show zy_V X M_X11_prices 5 P (58 + 3) [.ref v0, .int v1, .int v2, .int s.1] [.int q9.1, .int s.1, .ref (R v0 72)] (q9.2, R, J)
      obtain ⟨i10, hf⟩ := zw_inE hf
      obtain ⟨I11, eI11, hf⟩ := zw_letE hf
      refine zx_iast (pc := 61) (I2 := I11) d_X11_prices_61 g8 i10 eI11 ?_
      exact zx_weak (zw_leS (zw_leS (zw_leS (zw_leS zw_leZ)))) (j_X11_prices_62_2_ok X P v0 v1 v2 s.1 I11 R J _ hf hk)
    · refine zv_if_ne (pc := 20) (tg := 26) d_X11_prices_20 (by decide) (fun q => absurd q c5) (fun _ => ?_)
      refine zv_goto (pc := 23) (tg := 62) d_X11_prices_23 (by decide) ?_
      exact zx_weak (zw_leS (zw_leS (zw_leS (zw_leS zw_leZ)))) (j_X11_prices_62_2_ok X P v0 v1 v2 s.1 s.2 R J _ hf hk)
theorem s_X11_prices_2_lp (X : zw_X) (P : Option Value → aS → Prop) (v0 : Nat) (v1 : Int32) (v2 : Int32) (R : zR) (J : zJ) (n : Nat) (s : Int32 × zI) (r : zI) (h : zw_it (s_X11_prices_2 v0 v1 v2 R) n s = some r) (hq : zy_V X M_X11_prices 5 P 68 [.null, .null, .null, .null] [] (r, R, J)) : zy_V X M_X11_prices 5 P 2 [.ref v0, .int v1, .int v2, .int s.1] [] (s.2, R, J) :=
  zw_itE (A := (fun t : Int32 × zI => zy_V X M_X11_prices 5 P 2 [.ref v0, .int v1, .int v2, .int t.1] [] (t.2, R, J))) (Q := (fun r : zI => zy_V X M_X11_prices 5 P 68 [.null, .null, .null, .null] [] (r, R, J))) (fun s o h1 h2 => s_X11_prices_2_ok X P v0 v1 v2 R J s o h1 h2) n s r h hq
def f_X11_prices (v0 : Nat) (v1 : Int32) (v2 : Int32) (I : zI) (R : zR) : Option (zI) :=
  (zw_it (s_X11_prices_2 v0 v1 v2 R) 1000000 (0, I)).bind fun q13 => (some q13)
theorem c_X11_prices (X : zw_X) (v0 : Nat) (v1 : Int32) (v2 : Int32) (I : zI) (R : zR) (J : zJ) {P : Option Value → aS → Prop} (o : zI) (hf : f_X11_prices v0 v1 v2 I R = some o) (hk : P none (o, R, J)) : zw_C X M_X11_prices 5 0 0 199 [.ref v0, .int v1, .int v2] (I, R, J) P := by
  show zy_V X M_X11_prices 5 P 0 [.ref v0, .int v1, .int v2, .null] [] (I, R, J)
  unfold f_X11_prices at hf
  refine zv_iconst (pc := 0) d_X11_prices_0 zc_i_0 ?_
  refine zx_istore_n (pc := 1) (x2 := 0) (L2 := [.ref v0, .int v1, .int v2, .int 0]) d_X11_prices_1 (by decide) rfl rfl ?_
  obtain ⟨q13, hq13, hf⟩ := zw_bdE hf
  refine zx_weak (L' := [.ref v0, .int v1, .int v2, .int 0]) (zw_leS (zw_leS (zw_leS (zw_leS zw_leZ)))) (s_X11_prices_2_lp X P v0 v1 v2 R J _ _ _ hq13 ?_)
  show zy_V X M_X11_prices 5 P 68 [.null, .null, .null, .null] [] (q13, R, J)
  cases hf
  exact zx_vret (pc := 68) d_X11_prices_68 rfl hk
abbrev M_X11_shine : zw_M := (⟨"CutStonesModel", "shine", "(IIIIIIII)I"⟩, prog_13_method_61_code, 12, (Option.some Jvm.ClassFile.FieldType.int))
theorem d_X11_shine_0 : decode M_X11_shine.2.1 0 = .ok (.aload_n 0, 1) := by decide +kernel
theorem d_X11_shine_1 : decode M_X11_shine.2.1 1 = .ok (.iload_n 1, 1) := by decide +kernel
theorem d_X11_shine_2 : decode M_X11_shine.2.1 2 = .ok (.invokevirtual 380, 3) := by decide +kernel
theorem d_X11_shine_5 : decode M_X11_shine.2.1 5 = .ok (.istore 9, 2) := by decide +kernel
theorem d_X11_shine_7 : decode M_X11_shine.2.1 7 = .ok (.aload_n 0, 1) := by decide +kernel
theorem d_X11_shine_8 : decode M_X11_shine.2.1 8 = .ok (.iload_n 2, 1) := by decide +kernel
theorem d_X11_shine_9 : decode M_X11_shine.2.1 9 = .ok (.invokevirtual 393, 3) := by decide +kernel
theorem d_X11_shine_12 : decode M_X11_shine.2.1 12 = .ok (.istore 10, 2) := by decide +kernel
theorem d_X11_shine_14 : decode M_X11_shine.2.1 14 = .ok (.iload 9, 2) := by decide +kernel
theorem d_X11_shine_16 : decode M_X11_shine.2.1 16 = .ok (.iconst (-1), 1) := by decide +kernel
theorem d_X11_shine_17 : decode M_X11_shine.2.1 17 = .ok (.if_icmp .eq 52, 3) := by decide +kernel
theorem d_X11_shine_20 : decode M_X11_shine.2.1 20 = .ok (.iload 10, 2) := by decide +kernel
theorem d_X11_shine_22 : decode M_X11_shine.2.1 22 = .ok (.iconst (-1), 1) := by decide +kernel
theorem d_X11_shine_23 : decode M_X11_shine.2.1 23 = .ok (.if_icmp .eq 46, 3) := by decide +kernel
theorem d_X11_shine_26 : decode M_X11_shine.2.1 26 = .ok (.iload_n 3, 1) := by decide +kernel
theorem d_X11_shine_27 : decode M_X11_shine.2.1 27 = .ok (.invokestatic 396, 3) := by decide +kernel
theorem d_X11_shine_30 : decode M_X11_shine.2.1 30 = .ok (.ifCond .eq 39, 3) := by decide +kernel
theorem d_X11_shine_33 : decode M_X11_shine.2.1 33 = .ok (.iload 4, 2) := by decide +kernel
theorem d_X11_shine_35 : decode M_X11_shine.2.1 35 = .ok (.iconst 0, 1) := by decide +kernel
theorem d_X11_shine_36 : decode M_X11_shine.2.1 36 = .ok (.ldc_w 399, 3) := by decide +kernel
theorem d_X11_shine_39 : decode M_X11_shine.2.1 39 = .ok (.invokestatic 373, 3) := by decide +kernel
theorem d_X11_shine_42 : decode M_X11_shine.2.1 42 = .ok (.ifCond .eq 27, 3) := by decide +kernel
theorem d_X11_shine_45 : decode M_X11_shine.2.1 45 = .ok (.iload 5, 2) := by decide +kernel
theorem d_X11_shine_47 : decode M_X11_shine.2.1 47 = .ok (.iconst 0, 1) := by decide +kernel
theorem d_X11_shine_48 : decode M_X11_shine.2.1 48 = .ok (.ldc_w 399, 3) := by decide +kernel
theorem d_X11_shine_51 : decode M_X11_shine.2.1 51 = .ok (.invokestatic 373, 3) := by decide +kernel
theorem d_X11_shine_54 : decode M_X11_shine.2.1 54 = .ok (.ifCond .eq 15, 3) := by decide +kernel
theorem d_X11_shine_57 : decode M_X11_shine.2.1 57 = .ok (.iload 6, 2) := by decide +kernel
theorem d_X11_shine_59 : decode M_X11_shine.2.1 59 = .ok (.iconst 0, 1) := by decide +kernel
theorem d_X11_shine_60 : decode M_X11_shine.2.1 60 = .ok (.ldc_w 399, 3) := by decide +kernel
theorem d_X11_shine_63 : decode M_X11_shine.2.1 63 = .ok (.invokestatic 373, 3) := by decide +kernel
theorem d_X11_shine_66 : decode M_X11_shine.2.1 66 = .ok (.ifCond .ne 5, 3) := by decide +kernel
theorem d_X11_shine_69 : decode M_X11_shine.2.1 69 = .ok (.iconst (-1), 1) := by decide +kernel
theorem d_X11_shine_70 : decode M_X11_shine.2.1 70 = .ok (.ireturn, 1) := by decide +kernel
theorem d_X11_shine_71 : decode M_X11_shine.2.1 71 = .ok (.aload_n 0, 1) := by decide +kernel
theorem d_X11_shine_72 : decode M_X11_shine.2.1 72 = .ok (.iload 9, 2) := by decide +kernel
theorem d_X11_shine_74 : decode M_X11_shine.2.1 74 = .ok (.iload 10, 2) := by decide +kernel
theorem d_X11_shine_76 : decode M_X11_shine.2.1 76 = .ok (.iload_n 3, 1) := by decide +kernel
theorem d_X11_shine_77 : decode M_X11_shine.2.1 77 = .ok (.iload 4, 2) := by decide +kernel
theorem d_X11_shine_79 : decode M_X11_shine.2.1 79 = .ok (.iload 5, 2) := by decide +kernel
theorem d_X11_shine_81 : decode M_X11_shine.2.1 81 = .ok (.iload 6, 2) := by decide +kernel
theorem d_X11_shine_83 : decode M_X11_shine.2.1 83 = .ok (.iload 7, 2) := by decide +kernel
theorem d_X11_shine_85 : decode M_X11_shine.2.1 85 = .ok (.iload 8, 2) := by decide +kernel
theorem d_X11_shine_87 : decode M_X11_shine.2.1 87 = .ok (.invokevirtual 412, 3) := by decide +kernel
theorem d_X11_shine_90 : decode M_X11_shine.2.1 90 = .ok (.aload_n 0, 1) := by decide +kernel
theorem d_X11_shine_91 : decode M_X11_shine.2.1 91 = .ok (.iconst 1, 1) := by decide +kernel
theorem d_X11_shine_92 : decode M_X11_shine.2.1 92 = .ok (.putfield 267, 3) := by decide +kernel
theorem d_X11_shine_95 : decode M_X11_shine.2.1 95 = .ok (.aload_n 0, 1) := by decide +kernel
theorem d_X11_shine_96 : decode M_X11_shine.2.1 96 = .ok (.aload_n 0, 1) := by decide +kernel
theorem d_X11_shine_97 : decode M_X11_shine.2.1 97 = .ok (.getfield 64, 3) := by decide +kernel
theorem d_X11_shine_100 : decode M_X11_shine.2.1 100 = .ok (.iload 9, 2) := by decide +kernel
theorem d_X11_shine_102 : decode M_X11_shine.2.1 102 = .ok (.iaload, 1) := by decide +kernel
theorem d_X11_shine_103 : decode M_X11_shine.2.1 103 = .ok (.putfield 416, 3) := by decide +kernel
theorem d_X11_shine_106 : decode M_X11_shine.2.1 106 = .ok (.iconst 0, 1) := by decide +kernel
theorem d_X11_shine_107 : decode M_X11_shine.2.1 107 = .ok (.istore 11, 2) := by decide +kernel
theorem d_X11_shine_109 : decode M_X11_shine.2.1 109 = .ok (.iload 11, 2) := by decide +kernel
theorem d_X11_shine_111 : decode M_X11_shine.2.1 111 = .ok (.bipush 8, 2) := by decide +kernel
theorem d_X11_shine_113 : decode M_X11_shine.2.1 113 = .ok (.if_icmp .ge 23, 3) := by decide +kernel
theorem d_X11_shine_116 : decode M_X11_shine.2.1 116 = .ok (.aload_n 0, 1) := by decide +kernel
theorem d_X11_shine_117 : decode M_X11_shine.2.1 117 = .ok (.getfield 140, 3) := by decide +kernel
theorem d_X11_shine_120 : decode M_X11_shine.2.1 120 = .ok (.iload 11, 2) := by decide +kernel
theorem d_X11_shine_122 : decode M_X11_shine.2.1 122 = .ok (.aload_n 0, 1) := by decide +kernel
theorem d_X11_shine_123 : decode M_X11_shine.2.1 123 = .ok (.getfield 119, 3) := by decide +kernel
theorem d_X11_shine_126 : decode M_X11_shine.2.1 126 = .ok (.iload 11, 2) := by decide +kernel
theorem d_X11_shine_128 : decode M_X11_shine.2.1 128 = .ok (.iaload, 1) := by decide +kernel
theorem d_X11_shine_129 : decode M_X11_shine.2.1 129 = .ok (.iastore, 1) := by decide +kernel
theorem d_X11_shine_130 : decode M_X11_shine.2.1 130 = .ok (.iinc 11 1, 3) := by decide +kernel
theorem d_X11_shine_133 : decode M_X11_shine.2.1 133 = .ok (.goto (-24), 3) := by decide +kernel
theorem d_X11_shine_136 : decode M_X11_shine.2.1 136 = .ok (.iconst 0, 1) := by decide +kernel
theorem d_X11_shine_137 : decode M_X11_shine.2.1 137 = .ok (.istore 11, 2) := by decide +kernel
theorem d_X11_shine_139 : decode M_X11_shine.2.1 139 = .ok (.iload 11, 2) := by decide +kernel
theorem d_X11_shine_141 : decode M_X11_shine.2.1 141 = .ok (.bipush 12, 2) := by decide +kernel
theorem d_X11_shine_143 : decode M_X11_shine.2.1 143 = .ok (.if_icmp .ge 23, 3) := by decide +kernel
theorem d_X11_shine_146 : decode M_X11_shine.2.1 146 = .ok (.aload_n 0, 1) := by decide +kernel
theorem d_X11_shine_147 : decode M_X11_shine.2.1 147 = .ok (.getfield 146, 3) := by decide +kernel
theorem d_X11_shine_150 : decode M_X11_shine.2.1 150 = .ok (.iload 11, 2) := by decide +kernel
theorem d_X11_shine_152 : decode M_X11_shine.2.1 152 = .ok (.aload_n 0, 1) := by decide +kernel
theorem d_X11_shine_153 : decode M_X11_shine.2.1 153 = .ok (.getfield 128, 3) := by decide +kernel
theorem d_X11_shine_156 : decode M_X11_shine.2.1 156 = .ok (.iload 11, 2) := by decide +kernel
theorem d_X11_shine_158 : decode M_X11_shine.2.1 158 = .ok (.iaload, 1) := by decide +kernel
theorem d_X11_shine_159 : decode M_X11_shine.2.1 159 = .ok (.iastore, 1) := by decide +kernel
theorem d_X11_shine_160 : decode M_X11_shine.2.1 160 = .ok (.iinc 11 1, 3) := by decide +kernel
theorem d_X11_shine_163 : decode M_X11_shine.2.1 163 = .ok (.goto (-24), 3) := by decide +kernel
theorem d_X11_shine_166 : decode M_X11_shine.2.1 166 = .ok (.aload_n 0, 1) := by decide +kernel
theorem d_X11_shine_167 : decode M_X11_shine.2.1 167 = .ok (.getfield 143, 3) := by decide +kernel
theorem d_X11_shine_170 : decode M_X11_shine.2.1 170 = .ok (.iconst 0, 1) := by decide +kernel
theorem d_X11_shine_171 : decode M_X11_shine.2.1 171 = .ok (.aload_n 0, 1) := by decide +kernel
theorem d_X11_shine_172 : decode M_X11_shine.2.1 172 = .ok (.getfield 119, 3) := by decide +kernel
theorem d_X11_shine_175 : decode M_X11_shine.2.1 175 = .ok (.iconst 0, 1) := by decide +kernel
theorem d_X11_shine_176 : decode M_X11_shine.2.1 176 = .ok (.iaload, 1) := by decide +kernel
theorem d_X11_shine_177 : decode M_X11_shine.2.1 177 = .ok (.iastore, 1) := by decide +kernel
theorem d_X11_shine_178 : decode M_X11_shine.2.1 178 = .ok (.aload_n 0, 1) := by decide +kernel
theorem d_X11_shine_179 : decode M_X11_shine.2.1 179 = .ok (.getfield 143, 3) := by decide +kernel
theorem d_X11_shine_182 : decode M_X11_shine.2.1 182 = .ok (.iconst 1, 1) := by decide +kernel
theorem d_X11_shine_183 : decode M_X11_shine.2.1 183 = .ok (.aload_n 0, 1) := by decide +kernel
theorem d_X11_shine_184 : decode M_X11_shine.2.1 184 = .ok (.getfield 119, 3) := by decide +kernel
theorem d_X11_shine_187 : decode M_X11_shine.2.1 187 = .ok (.iconst 1, 1) := by decide +kernel
theorem d_X11_shine_188 : decode M_X11_shine.2.1 188 = .ok (.iaload, 1) := by decide +kernel
theorem d_X11_shine_189 : decode M_X11_shine.2.1 189 = .ok (.iastore, 1) := by decide +kernel
theorem d_X11_shine_190 : decode M_X11_shine.2.1 190 = .ok (.aload_n 0, 1) := by decide +kernel
theorem d_X11_shine_191 : decode M_X11_shine.2.1 191 = .ok (.getfield 143, 3) := by decide +kernel
theorem d_X11_shine_194 : decode M_X11_shine.2.1 194 = .ok (.iconst 2, 1) := by decide +kernel
theorem d_X11_shine_195 : decode M_X11_shine.2.1 195 = .ok (.aload_n 0, 1) := by decide +kernel
theorem d_X11_shine_196 : decode M_X11_shine.2.1 196 = .ok (.getfield 119, 3) := by decide +kernel
theorem d_X11_shine_199 : decode M_X11_shine.2.1 199 = .ok (.iconst 2, 1) := by decide +kernel
theorem d_X11_shine_200 : decode M_X11_shine.2.1 200 = .ok (.iaload, 1) := by decide +kernel
theorem d_X11_shine_201 : decode M_X11_shine.2.1 201 = .ok (.iastore, 1) := by decide +kernel
theorem d_X11_shine_202 : decode M_X11_shine.2.1 202 = .ok (.aload_n 0, 1) := by decide +kernel
theorem d_X11_shine_203 : decode M_X11_shine.2.1 203 = .ok (.getfield 143, 3) := by decide +kernel
theorem d_X11_shine_206 : decode M_X11_shine.2.1 206 = .ok (.iconst 3, 1) := by decide +kernel
theorem d_X11_shine_207 : decode M_X11_shine.2.1 207 = .ok (.aload_n 0, 1) := by decide +kernel
theorem d_X11_shine_208 : decode M_X11_shine.2.1 208 = .ok (.getfield 119, 3) := by decide +kernel
theorem d_X11_shine_211 : decode M_X11_shine.2.1 211 = .ok (.iconst 4, 1) := by decide +kernel
theorem d_X11_shine_212 : decode M_X11_shine.2.1 212 = .ok (.iaload, 1) := by decide +kernel
theorem d_X11_shine_213 : decode M_X11_shine.2.1 213 = .ok (.iastore, 1) := by decide +kernel
theorem d_X11_shine_214 : decode M_X11_shine.2.1 214 = .ok (.aload_n 0, 1) := by decide +kernel
theorem d_X11_shine_215 : decode M_X11_shine.2.1 215 = .ok (.getfield 143, 3) := by decide +kernel
theorem d_X11_shine_218 : decode M_X11_shine.2.1 218 = .ok (.iconst 4, 1) := by decide +kernel
theorem d_X11_shine_219 : decode M_X11_shine.2.1 219 = .ok (.aload_n 0, 1) := by decide +kernel
theorem d_X11_shine_220 : decode M_X11_shine.2.1 220 = .ok (.getfield 340, 3) := by decide +kernel
theorem d_X11_shine_223 : decode M_X11_shine.2.1 223 = .ok (.iastore, 1) := by decide +kernel
theorem d_X11_shine_224 : decode M_X11_shine.2.1 224 = .ok (.aload_n 0, 1) := by decide +kernel
theorem d_X11_shine_225 : decode M_X11_shine.2.1 225 = .ok (.getfield 143, 3) := by decide +kernel
theorem d_X11_shine_228 : decode M_X11_shine.2.1 228 = .ok (.iconst 5, 1) := by decide +kernel
theorem d_X11_shine_229 : decode M_X11_shine.2.1 229 = .ok (.aload_n 0, 1) := by decide +kernel
theorem d_X11_shine_230 : decode M_X11_shine.2.1 230 = .ok (.getfield 328, 3) := by decide +kernel
theorem d_X11_shine_233 : decode M_X11_shine.2.1 233 = .ok (.iastore, 1) := by decide +kernel
theorem d_X11_shine_234 : decode M_X11_shine.2.1 234 = .ok (.aload_n 0, 1) := by decide +kernel
theorem d_X11_shine_235 : decode M_X11_shine.2.1 235 = .ok (.getfield 143, 3) := by decide +kernel
theorem d_X11_shine_238 : decode M_X11_shine.2.1 238 = .ok (.bipush 6, 2) := by decide +kernel
theorem d_X11_shine_240 : decode M_X11_shine.2.1 240 = .ok (.aload_n 0, 1) := by decide +kernel
theorem d_X11_shine_241 : decode M_X11_shine.2.1 241 = .ok (.getfield 331, 3) := by decide +kernel
theorem d_X11_shine_244 : decode M_X11_shine.2.1 244 = .ok (.iastore, 1) := by decide +kernel
theorem d_X11_shine_245 : decode M_X11_shine.2.1 245 = .ok (.aload_n 0, 1) := by decide +kernel
theorem d_X11_shine_246 : decode M_X11_shine.2.1 246 = .ok (.getfield 143, 3) := by decide +kernel
theorem d_X11_shine_249 : decode M_X11_shine.2.1 249 = .ok (.bipush 7, 2) := by decide +kernel
theorem d_X11_shine_251 : decode M_X11_shine.2.1 251 = .ok (.aload_n 0, 1) := by decide +kernel
theorem d_X11_shine_252 : decode M_X11_shine.2.1 252 = .ok (.getfield 334, 3) := by decide +kernel
theorem d_X11_shine_255 : decode M_X11_shine.2.1 255 = .ok (.iastore, 1) := by decide +kernel
theorem d_X11_shine_256 : decode M_X11_shine.2.1 256 = .ok (.aload_n 0, 1) := by decide +kernel
theorem d_X11_shine_257 : decode M_X11_shine.2.1 257 = .ok (.getfield 143, 3) := by decide +kernel
theorem d_X11_shine_260 : decode M_X11_shine.2.1 260 = .ok (.bipush 8, 2) := by decide +kernel
theorem d_X11_shine_262 : decode M_X11_shine.2.1 262 = .ok (.aload_n 0, 1) := by decide +kernel
theorem d_X11_shine_263 : decode M_X11_shine.2.1 263 = .ok (.getfield 343, 3) := by decide +kernel
theorem d_X11_shine_266 : decode M_X11_shine.2.1 266 = .ok (.iastore, 1) := by decide +kernel
theorem d_X11_shine_267 : decode M_X11_shine.2.1 267 = .ok (.aload_n 0, 1) := by decide +kernel
theorem d_X11_shine_268 : decode M_X11_shine.2.1 268 = .ok (.getfield 119, 3) := by decide +kernel
theorem d_X11_shine_271 : decode M_X11_shine.2.1 271 = .ok (.iconst 0, 1) := by decide +kernel
theorem d_X11_shine_272 : decode M_X11_shine.2.1 272 = .ok (.iaload, 1) := by decide +kernel
theorem d_X11_shine_273 : decode M_X11_shine.2.1 273 = .ok (.ireturn, 1) := by decide +kernel
theorem ce_X11_shine : zw_CeV M_X11_shine 8 := ⟨⟨⟨by decide +kernel, by decide +kernel, by decide +kernel⟩, (zw_mG (List.mem_of_getElem? (i := 1602) (by decide +kernel)) rfl), (zw_mG (List.mem_of_getElem? (i := 108) (by decide +kernel)) rfl), by decide, by decide +kernel⟩, (zw_mG (List.mem_of_getElem? (i := 1600) (by decide +kernel)) rfl), (zw_mG (List.mem_of_getElem? (i := 1601) (by decide +kernel)) rfl)⟩
def s_X11_shine_109 (v0 : Nat) (R : zR) (s : Int32 × zI) : Option ((Int32 × zI) ⊕ (zI)) :=
  if 8 ≤ s.1 then some (.inr s.2) else zw_g (zw_gc v0 11) (zw_g (zw_gc (R v0 67) 13) (zw_g (zw_gc (R v0 49) 13) (zw_g (zw_in s.1 (zw_SH (R v0 49)).2) (zw_g (zw_in s.1 (zw_SH (R v0 67)).2) (zw_let (zw_u s.2 (R v0 67) (Int32.toNatClampNeg s.1) (s.2 (R v0 49) (Int32.toNatClampNeg s.1)) : zI) fun I25 => (zw_let (s.1 + 1 : Int32) fun x26 => (some (.inl (x26, I25)))))))))
theorem s_X11_shine_109_ok (X : zw_X) (P : Option Value → aS → Prop) (v0 : Nat) (R : zR) (J : zJ) (s : Int32 × zI) (o : (Int32 × zI) ⊕ (zI)) (hf : s_X11_shine_109 v0 R s = some o) (hk : (zw_se (fun t => zy_V X M_X11_shine 5 P 109 [.ref v0, .null, .null, .null, .null, .null, .null, .null, .null, .null, .null, .int t.1] [] (t.2, R, J)) (fun r => zy_V X M_X11_shine 5 P 136 [.ref v0, .null, .null, .null, .null, .null, .null, .null, .null, .null, .null, .null] [] (r, R, J)) o)) : zy_V X M_X11_shine 5 P 109 [.ref v0, .null, .null, .null, .null, .null, .null, .null, .null, .null, .null, .int s.1] [] (s.2, R, J) := by
  unfold s_X11_shine_109 at hf
  refine zv_iload (pc := 109) d_X11_shine_109 rfl ?_
  refine zv_bipush (pc := 111) d_X11_shine_111 zc_b_8 ?_
  rcases zw_ifE hf with ⟨c19, hf⟩ | ⟨c19, hf⟩
  · refine zv_icmp_ge (pc := 113) (tg := 136) d_X11_shine_113 (by decide) (fun _ => ?_) (fun q => absurd c19 q)
    cases hf
    exact zx_weak (zw_leS (zw_leN (zw_leN (zw_leN (zw_leN (zw_leN (zw_leN (zw_leN (zw_leN (zw_leN (zw_leN (zw_leN zw_leZ)))))))))))) hk
  · refine zv_icmp_ge (pc := 113) (tg := 136) d_X11_shine_113 (by decide) (fun q => absurd q c19) (fun _ => ?_)
    refine zv_aload_n (pc := 116) d_X11_shine_116 rfl ?_
    obtain ⟨g20, hf⟩ := zw_gcE hf (by decide)
    obtain ⟨g21, hf⟩ := zw_gcE hf (by decide)
    refine zx_getR (pc := 117) d_X11_shine_117 lk_CutStonesModel_140 (by decide) g20 g21 ?_
    refine zv_iload (pc := 120) d_X11_shine_120 rfl ?_
    refine zv_aload_n (pc := 122) d_X11_shine_122 rfl ?_
    obtain ⟨g22, hf⟩ := zw_gcE hf (by decide)
    refine zx_getR (pc := 123) d_X11_shine_123 lk_CutStonesModel_119 (by decide) g20 g22 ?_
    refine zv_iload (pc := 126) d_X11_shine_126 rfl ?_
    obtain ⟨i23, hf⟩ := zw_inE hf
    refine zx_iald (pc := 128) d_X11_shine_128 g22 i23 ?_
    obtain ⟨i24, hf⟩ := zw_inE hf
    obtain ⟨I25, eI25, hf⟩ := zw_letE hf
    refine zx_iast (pc := 129) (I2 := I25) d_X11_shine_129 g21 i24 eI25 ?_
    obtain ⟨x26, ex26, hf⟩ := zw_letE hf
    refine zx_iinc (pc := 130) (x2 := x26) (L2 := [.ref v0, .null, .null, .null, .null, .null, .null, .null, .null, .null, .null, .int x26]) d_X11_shine_130 (by decide) rfl zc_i_1 ex26 rfl ?_
    refine zv_goto (pc := 133) (tg := 109) d_X11_shine_133 (by decide) ?_
    cases hf
    exact zx_weak (zw_leS (zw_leN (zw_leN (zw_leN (zw_leN (zw_leN (zw_leN (zw_leN (zw_leN (zw_leN (zw_leN (zw_leS zw_leZ)))))))))))) hk
theorem s_X11_shine_109_lp (X : zw_X) (P : Option Value → aS → Prop) (v0 : Nat) (R : zR) (J : zJ) (n : Nat) (s : Int32 × zI) (r : zI) (h : zw_it (s_X11_shine_109 v0 R) n s = some r) (hq : zy_V X M_X11_shine 5 P 136 [.ref v0, .null, .null, .null, .null, .null, .null, .null, .null, .null, .null, .null] [] (r, R, J)) : zy_V X M_X11_shine 5 P 109 [.ref v0, .null, .null, .null, .null, .null, .null, .null, .null, .null, .null, .int s.1] [] (s.2, R, J) :=
  zw_itE (A := (fun t : Int32 × zI => zy_V X M_X11_shine 5 P 109 [.ref v0, .null, .null, .null, .null, .null, .null, .null, .null, .null, .null, .int t.1] [] (t.2, R, J))) (Q := (fun r : zI => zy_V X M_X11_shine 5 P 136 [.ref v0, .null, .null, .null, .null, .null, .null, .null, .null, .null, .null, .null] [] (r, R, J))) (fun s o h1 h2 => s_X11_shine_109_ok X P v0 R J s o h1 h2) n s r h hq
def s_X11_shine_139 (v0 : Nat) (R : zR) (s : Int32 × zI) : Option ((Int32 × zI) ⊕ (zI)) :=
  if 12 ≤ s.1 then some (.inr s.2) else zw_g (zw_gc v0 11) (zw_g (zw_gc (R v0 69) 13) (zw_g (zw_gc (R v0 53) 13) (zw_g (zw_in s.1 (zw_SH (R v0 53)).2) (zw_g (zw_in s.1 (zw_SH (R v0 69)).2) (zw_let (zw_u s.2 (R v0 69) (Int32.toNatClampNeg s.1) (s.2 (R v0 53) (Int32.toNatClampNeg s.1)) : zI) fun I34 => (zw_let (s.1 + 1 : Int32) fun x35 => (some (.inl (x35, I34)))))))))
theorem s_X11_shine_139_ok (X : zw_X) (P : Option Value → aS → Prop) (v0 : Nat) (R : zR) (J : zJ) (s : Int32 × zI) (o : (Int32 × zI) ⊕ (zI)) (hf : s_X11_shine_139 v0 R s = some o) (hk : (zw_se (fun t => zy_V X M_X11_shine 5 P 139 [.ref v0, .null, .null, .null, .null, .null, .null, .null, .null, .null, .null, .int t.1] [] (t.2, R, J)) (fun r => zy_V X M_X11_shine 5 P 166 [.ref v0, .null, .null, .null, .null, .null, .null, .null, .null, .null, .null, .null] [] (r, R, J)) o)) : zy_V X M_X11_shine 5 P 139 [.ref v0, .null, .null, .null, .null, .null, .null, .null, .null, .null, .null, .int s.1] [] (s.2, R, J) := by
  unfold s_X11_shine_139 at hf
  refine zv_iload (pc := 139) d_X11_shine_139 rfl ?_
  refine zv_bipush (pc := 141) d_X11_shine_141 zc_b_12 ?_
  rcases zw_ifE hf with ⟨c28, hf⟩ | ⟨c28, hf⟩
  · refine zv_icmp_ge (pc := 143) (tg := 166) d_X11_shine_143 (by decide) (fun _ => ?_) (fun q => absurd c28 q)
    cases hf
    exact zx_weak (zw_leS (zw_leN (zw_leN (zw_leN (zw_leN (zw_leN (zw_leN (zw_leN (zw_leN (zw_leN (zw_leN (zw_leN zw_leZ)))))))))))) hk
  · refine zv_icmp_ge (pc := 143) (tg := 166) d_X11_shine_143 (by decide) (fun q => absurd q c28) (fun _ => ?_)
    refine zv_aload_n (pc := 146) d_X11_shine_146 rfl ?_
    obtain ⟨g29, hf⟩ := zw_gcE hf (by decide)
    obtain ⟨g30, hf⟩ := zw_gcE hf (by decide)
    refine zx_getR (pc := 147) d_X11_shine_147 lk_CutStonesModel_146 (by decide) g29 g30 ?_
    refine zv_iload (pc := 150) d_X11_shine_150 rfl ?_
    refine zv_aload_n (pc := 152) d_X11_shine_152 rfl ?_
    obtain ⟨g31, hf⟩ := zw_gcE hf (by decide)
    refine zx_getR (pc := 153) d_X11_shine_153 lk_CutStonesModel_128 (by decide) g29 g31 ?_
    refine zv_iload (pc := 156) d_X11_shine_156 rfl ?_
    obtain ⟨i32, hf⟩ := zw_inE hf
    refine zx_iald (pc := 158) d_X11_shine_158 g31 i32 ?_
    obtain ⟨i33, hf⟩ := zw_inE hf
    obtain ⟨I34, eI34, hf⟩ := zw_letE hf
    refine zx_iast (pc := 159) (I2 := I34) d_X11_shine_159 g30 i33 eI34 ?_
    obtain ⟨x35, ex35, hf⟩ := zw_letE hf
    refine zx_iinc (pc := 160) (x2 := x35) (L2 := [.ref v0, .null, .null, .null, .null, .null, .null, .null, .null, .null, .null, .int x35]) d_X11_shine_160 (by decide) rfl zc_i_1 ex35 rfl ?_
    refine zv_goto (pc := 163) (tg := 139) d_X11_shine_163 (by decide) ?_
    cases hf
    exact zx_weak (zw_leS (zw_leN (zw_leN (zw_leN (zw_leN (zw_leN (zw_leN (zw_leN (zw_leN (zw_leN (zw_leN (zw_leS zw_leZ)))))))))))) hk
theorem s_X11_shine_139_lp (X : zw_X) (P : Option Value → aS → Prop) (v0 : Nat) (R : zR) (J : zJ) (n : Nat) (s : Int32 × zI) (r : zI) (h : zw_it (s_X11_shine_139 v0 R) n s = some r) (hq : zy_V X M_X11_shine 5 P 166 [.ref v0, .null, .null, .null, .null, .null, .null, .null, .null, .null, .null, .null] [] (r, R, J)) : zy_V X M_X11_shine 5 P 139 [.ref v0, .null, .null, .null, .null, .null, .null, .null, .null, .null, .null, .int s.1] [] (s.2, R, J) :=
  zw_itE (A := (fun t : Int32 × zI => zy_V X M_X11_shine 5 P 139 [.ref v0, .null, .null, .null, .null, .null, .null, .null, .null, .null, .null, .int t.1] [] (t.2, R, J))) (Q := (fun r : zI => zy_V X M_X11_shine 5 P 166 [.ref v0, .null, .null, .null, .null, .null, .null, .null, .null, .null, .null, .null] [] (r, R, J))) (fun s o h1 h2 => s_X11_shine_139_ok X P v0 R J s o h1 h2) n s r h hq
def f_X11_shine (v0 : Nat) (v1 : Int32) (v2 : Int32) (v3 : Int32) (v4 : Int32) (v5 : Int32) (v6 : Int32) (v7 : Int32) (v8 : Int32) (I : zI) (R : zR) : Option (Int32 × zI) :=
  zw_g (zw_gc v0 11) ((f_X11_cutRow v0 v1 I R).bind fun q2 => ((f_X11_stuffRow v0 v2 I R).bind fun q3 => (if q2 = (-1) then some ((-1), I) else if q3 = (-1) then some ((-1), I) else (f_X11_isColour v3).bind fun q6 => (if q6 = 0 then some ((-1), I) else (f_X11_in v4 0 100000).bind fun q8 => (if q8 = 0 then some ((-1), I) else (f_X11_in v5 0 100000).bind fun q10 => (if q10 = 0 then some ((-1), I) else (f_X11_in v6 0 100000).bind fun q12 => (if ¬ q12 = 0 then (f_X11_shines v0 q2 q3 v3 v4 v5 v6 v7 v8 I R).bind fun q14 => (zw_let (zw_u q14 v0 65 1 : zI) fun I15 => (zw_g (zw_gc (R v0 28) 13) (zw_g (zw_in q2 (zw_SH (R v0 28)).2) (zw_let (zw_u I15 v0 66 (I15 (R v0 28) (Int32.toNatClampNeg q2)) : zI) fun I18 => ((zw_it (s_X11_shine_109 v0 R) 1000000 (0, I18)).bind fun q27 => ((zw_it (s_X11_shine_139 v0 R) 1000000 (0, q27)).bind fun q36 => (zw_g (zw_gc (R v0 68) 13) (zw_g (zw_gc (R v0 49) 13) (zw_g (zw_in 0 (zw_SH (R v0 49)).2) (zw_g (zw_in 0 (zw_SH (R v0 68)).2) (zw_let (zw_u q36 (R v0 68) (Int32.toNatClampNeg 0) (q36 (R v0 49) (Int32.toNatClampNeg 0)) : zI) fun I41 => (zw_g (zw_in 1 (zw_SH (R v0 49)).2) (zw_g (zw_in 1 (zw_SH (R v0 68)).2) (zw_let (zw_u I41 (R v0 68) (Int32.toNatClampNeg 1) (I41 (R v0 49) (Int32.toNatClampNeg 1)) : zI) fun I44 => (zw_g (zw_in 2 (zw_SH (R v0 49)).2) (zw_g (zw_in 2 (zw_SH (R v0 68)).2) (zw_let (zw_u I44 (R v0 68) (Int32.toNatClampNeg 2) (I44 (R v0 49) (Int32.toNatClampNeg 2)) : zI) fun I47 => (zw_g (zw_in 4 (zw_SH (R v0 49)).2) (zw_g (zw_in 3 (zw_SH (R v0 68)).2) (zw_let (zw_u I47 (R v0 68) (Int32.toNatClampNeg 3) (I47 (R v0 49) (Int32.toNatClampNeg 4)) : zI) fun I50 => (zw_g (zw_in 4 (zw_SH (R v0 68)).2) (zw_let (zw_u I50 (R v0 68) (Int32.toNatClampNeg 4) (I50 v0 58) : zI) fun I52 => (zw_g (zw_in 5 (zw_SH (R v0 68)).2) (zw_let (zw_u I52 (R v0 68) (Int32.toNatClampNeg 5) (I52 v0 54) : zI) fun I54 => (zw_g (zw_in 6 (zw_SH (R v0 68)).2) (zw_let (zw_u I54 (R v0 68) (Int32.toNatClampNeg 6) (I54 v0 55) : zI) fun I56 => (zw_g (zw_in 7 (zw_SH (R v0 68)).2) (zw_let (zw_u I56 (R v0 68) (Int32.toNatClampNeg 7) (I56 v0 56) : zI) fun I58 => (zw_g (zw_in 8 (zw_SH (R v0 68)).2) (zw_let (zw_u I58 (R v0 68) (Int32.toNatClampNeg 8) (I58 v0 59) : zI) fun I60 => (zw_g (zw_in 0 (zw_SH (R v0 49)).2) (some ((I60 (R v0 49) (Int32.toNatClampNeg 0)), I60))))))))))))))))))))))))))))))))) else some ((-1), I))))))))
theorem c_X11_shine (X : zw_X) (v0 : Nat) (v1 : Int32) (v2 : Int32) (v3 : Int32) (v4 : Int32) (v5 : Int32) (v6 : Int32) (v7 : Int32) (v8 : Int32) (I : zI) (R : zR) (J : zJ) {P : Option Value → aS → Prop} (o : Int32 × zI) (hf : f_X11_shine v0 v1 v2 v3 v4 v5 v6 v7 v8 I R = some o) (hk : P (some (.int o.1)) (o.2, R, J)) : zw_C X M_X11_shine 5 0 0 199 [.ref v0, .int v1, .int v2, .int v3, .int v4, .int v5, .int v6, .int v7, .int v8] (I, R, J) P := by
  show zy_V X M_X11_shine 5 P 0 [.ref v0, .int v1, .int v2, .int v3, .int v4, .int v5, .int v6, .int v7, .int v8, .null, .null, .null] [] (I, R, J)
  unfold f_X11_shine at hf
  refine zv_aload_n (pc := 0) d_X11_shine_0 rfl ?_
  refine zv_iload_n (pc := 1) d_X11_shine_1 rfl ?_
  obtain ⟨g1, hf⟩ := zw_gcE hf (by decide)
  obtain ⟨q2, hq2, hf⟩ := zw_bdE hf
  refine zx_callV (pc := 2) (As := [.int v1]) (o := v0) (st := []) (d2 := 1) (M2 := M_X11_cutRow) (P2 := (fun r S => r = (some (.int q2)) ∧ S = (I, R, J))) d_X11_shine_2 (zw_mG (List.mem_of_getElem? (i := 1525) (by decide +kernel)) rfl) ce_X11_cutRow (zw_RvK g1 rfl rfl) (Nat.le_of_ble_eq_true rfl) rfl (Nat.le_of_ble_eq_true rfl) (by decide) (c_X11_cutRow X v0 v1 I R J _ hq2 ⟨rfl, rfl⟩) ?_
  rintro _ _ ⟨rfl, rfl⟩
  show zy_V X M_X11_shine 5 P (2 + 3) [.ref v0, .int v1, .int v2, .int v3, .int v4, .int v5, .int v6, .int v7, .int v8, .null, .null, .null] [.int q2] (I, R, J)
  refine zx_istore (pc := 5) (x2 := q2) (L2 := [.ref v0, .int v1, .int v2, .int v3, .int v4, .int v5, .int v6, .int v7, .int v8, .int q2, .null, .null]) d_X11_shine_5 (by decide) rfl rfl ?_
  refine zv_aload_n (pc := 7) d_X11_shine_7 rfl ?_
  refine zv_iload_n (pc := 8) d_X11_shine_8 rfl ?_
  obtain ⟨q3, hq3, hf⟩ := zw_bdE hf
  refine zx_callV (pc := 9) (As := [.int v2]) (o := v0) (st := []) (d2 := 1) (M2 := M_X11_stuffRow) (P2 := (fun r S => r = (some (.int q3)) ∧ S = (I, R, J))) d_X11_shine_9 (zw_mG (List.mem_of_getElem? (i := 1552) (by decide +kernel)) rfl) ce_X11_stuffRow (zw_RvK g1 rfl rfl) (Nat.le_of_ble_eq_true rfl) rfl (Nat.le_of_ble_eq_true rfl) (by decide) (c_X11_stuffRow X v0 v2 I R J _ hq3 ⟨rfl, rfl⟩) ?_
  rintro _ _ ⟨rfl, rfl⟩
  show zy_V X M_X11_shine 5 P (9 + 3) [.ref v0, .int v1, .int v2, .int v3, .int v4, .int v5, .int v6, .int v7, .int v8, .int q2, .null, .null] [.int q3] (I, R, J)
  refine zx_istore (pc := 12) (x2 := q3) (L2 := [.ref v0, .int v1, .int v2, .int v3, .int v4, .int v5, .int v6, .int v7, .int v8, .int q2, .int q3, .null]) d_X11_shine_12 (by decide) rfl rfl ?_
  refine zv_iload (pc := 14) d_X11_shine_14 rfl ?_
  refine zv_iconst (pc := 16) d_X11_shine_16 zc_i_m1 ?_
  rcases zw_ifE hf with ⟨c4, hf⟩ | ⟨c4, hf⟩
  · refine zv_icmp_eq (pc := 17) (tg := 69) d_X11_shine_17 (by decide) (fun _ => ?_) (fun q => absurd c4 q)
    refine zv_iconst (pc := 69) d_X11_shine_69 zc_i_m1 ?_
    cases hf
    exact zx_iret (pc := 70) d_X11_shine_70 rfl hk
  · refine zv_icmp_eq (pc := 17) (tg := 69) d_X11_shine_17 (by decide) (fun q => absurd q c4) (fun _ => ?_)
    refine zv_iload (pc := 20) d_X11_shine_20 rfl ?_
    refine zv_iconst (pc := 22) d_X11_shine_22 zc_i_m1 ?_
    rcases zw_ifE hf with ⟨c5, hf⟩ | ⟨c5, hf⟩
    · refine zv_icmp_eq (pc := 23) (tg := 69) d_X11_shine_23 (by decide) (fun _ => ?_) (fun q => absurd c5 q)
      refine zv_iconst (pc := 69) d_X11_shine_69 zc_i_m1 ?_
      cases hf
      exact zx_iret (pc := 70) d_X11_shine_70 rfl hk
    · refine zv_icmp_eq (pc := 23) (tg := 69) d_X11_shine_23 (by decide) (fun q => absurd q c5) (fun _ => ?_)
      refine zv_iload_n (pc := 26) d_X11_shine_26 rfl ?_
      obtain ⟨q6, hq6, hf⟩ := zw_bdE hf
      refine zx_callS (pc := 27) (As := [.int v3]) (st := []) (d2 := 0) (M2 := M_X11_isColour) (P2 := (fun r S => r = (some (.int q6)) ∧ S = (I, R, J))) d_X11_shine_27 (zw_mG (List.mem_of_getElem? (i := 1556) (by decide +kernel)) rfl) ce_X11_isColour (Nat.le_of_ble_eq_true rfl) rfl (Nat.le_of_ble_eq_true rfl) (by decide) (c_X11_isColour X v3 I R J _ hq6 ⟨rfl, rfl⟩) ?_
      rintro _ _ ⟨rfl, rfl⟩
      show zy_V X M_X11_shine 5 P (27 + 3) [.ref v0, .int v1, .int v2, .int v3, .int v4, .int v5, .int v6, .int v7, .int v8, .int q2, .int q3, .null] [.int q6] (I, R, J)
      rcases zw_ifE hf with ⟨c7, hf⟩ | ⟨c7, hf⟩
      · refine zv_if_eq (pc := 30) (tg := 69) d_X11_shine_30 (by decide) (fun _ => ?_) (fun q => absurd c7 q)
        refine zv_iconst (pc := 69) d_X11_shine_69 zc_i_m1 ?_
        cases hf
        exact zx_iret (pc := 70) d_X11_shine_70 rfl hk
      · refine zv_if_eq (pc := 30) (tg := 69) d_X11_shine_30 (by decide) (fun q => absurd q c7) (fun _ => ?_)
        refine zv_iload (pc := 33) d_X11_shine_33 rfl ?_
        refine zv_iconst (pc := 35) d_X11_shine_35 zc_i_0 ?_
        refine zv_ldcw (pc := 36) (v := 100000) d_X11_shine_36 (zw_mG (List.mem_of_getElem? (i := 1559) (by decide +kernel)) rfl) ?_
        obtain ⟨q8, hq8, hf⟩ := zw_bdE hf
        refine zx_callS (pc := 39) (As := [.int v4, .int 0, .int 100000]) (st := []) (d2 := 0) (M2 := M_X11_in) (P2 := (fun r S => r = (some (.int q8)) ∧ S = (I, R, J))) d_X11_shine_39 (zw_mG (List.mem_of_getElem? (i := 1522) (by decide +kernel)) rfl) ce_X11_in (Nat.le_of_ble_eq_true rfl) rfl (Nat.le_of_ble_eq_true rfl) (by decide) (c_X11_in X v4 0 100000 I R J _ hq8 ⟨rfl, rfl⟩) ?_
        rintro _ _ ⟨rfl, rfl⟩
        show zy_V X M_X11_shine 5 P (39 + 3) [.ref v0, .int v1, .int v2, .int v3, .int v4, .int v5, .int v6, .int v7, .int v8, .int q2, .int q3, .null] [.int q8] (I, R, J)
        rcases zw_ifE hf with ⟨c9, hf⟩ | ⟨c9, hf⟩
        · refine zv_if_eq (pc := 42) (tg := 69) d_X11_shine_42 (by decide) (fun _ => ?_) (fun q => absurd c9 q)
          refine zv_iconst (pc := 69) d_X11_shine_69 zc_i_m1 ?_
          cases hf
          exact zx_iret (pc := 70) d_X11_shine_70 rfl hk
        · refine zv_if_eq (pc := 42) (tg := 69) d_X11_shine_42 (by decide) (fun q => absurd q c9) (fun _ => ?_)
          refine zv_iload (pc := 45) d_X11_shine_45 rfl ?_
          refine zv_iconst (pc := 47) d_X11_shine_47 zc_i_0 ?_
          refine zv_ldcw (pc := 48) (v := 100000) d_X11_shine_48 (zw_mG (List.mem_of_getElem? (i := 1559) (by decide +kernel)) rfl) ?_
          obtain ⟨q10, hq10, hf⟩ := zw_bdE hf
          refine zx_callS (pc := 51) (As := [.int v5, .int 0, .int 100000]) (st := []) (d2 := 0) (M2 := M_X11_in) (P2 := (fun r S => r = (some (.int q10)) ∧ S = (I, R, J))) d_X11_shine_51 (zw_mG (List.mem_of_getElem? (i := 1522) (by decide +kernel)) rfl) ce_X11_in (Nat.le_of_ble_eq_true rfl) rfl (Nat.le_of_ble_eq_true rfl) (by decide) (c_X11_in X v5 0 100000 I R J _ hq10 ⟨rfl, rfl⟩) ?_
          rintro _ _ ⟨rfl, rfl⟩
          show zy_V X M_X11_shine 5 P (51 + 3) [.ref v0, .int v1, .int v2, .int v3, .int v4, .int v5, .int v6, .int v7, .int v8, .int q2, .int q3, .null] [.int q10] (I, R, J)
          rcases zw_ifE hf with ⟨c11, hf⟩ | ⟨c11, hf⟩
          · refine zv_if_eq (pc := 54) (tg := 69) d_X11_shine_54 (by decide) (fun _ => ?_) (fun q => absurd c11 q)
            refine zv_iconst (pc := 69) d_X11_shine_69 zc_i_m1 ?_
            cases hf
            exact zx_iret (pc := 70) d_X11_shine_70 rfl hk
          · refine zv_if_eq (pc := 54) (tg := 69) d_X11_shine_54 (by decide) (fun q => absurd q c11) (fun _ => ?_)
            refine zv_iload (pc := 57) d_X11_shine_57 rfl ?_
            refine zv_iconst (pc := 59) d_X11_shine_59 zc_i_0 ?_
            refine zv_ldcw (pc := 60) (v := 100000) d_X11_shine_60 (zw_mG (List.mem_of_getElem? (i := 1559) (by decide +kernel)) rfl) ?_
            obtain ⟨q12, hq12, hf⟩ := zw_bdE hf
            refine zx_callS (pc := 63) (As := [.int v6, .int 0, .int 100000]) (st := []) (d2 := 0) (M2 := M_X11_in) (P2 := (fun r S => r = (some (.int q12)) ∧ S = (I, R, J))) d_X11_shine_63 (zw_mG (List.mem_of_getElem? (i := 1522) (by decide +kernel)) rfl) ce_X11_in (Nat.le_of_ble_eq_true rfl) rfl (Nat.le_of_ble_eq_true rfl) (by decide) (c_X11_in X v6 0 100000 I R J _ hq12 ⟨rfl, rfl⟩) ?_
            rintro _ _ ⟨rfl, rfl⟩
            show zy_V X M_X11_shine 5 P (63 + 3) [.ref v0, .int v1, .int v2, .int v3, .int v4, .int v5, .int v6, .int v7, .int v8, .int q2, .int q3, .null] [.int q12] (I, R, J)
            rcases zw_ifE hf with ⟨c13, hf⟩ | ⟨c13, hf⟩
            · refine zv_if_ne (pc := 66) (tg := 71) d_X11_shine_66 (by decide) (fun _ => ?_) (fun q => absurd q c13)
              refine zv_aload_n (pc := 71) d_X11_shine_71 rfl ?_
              refine zv_iload (pc := 72) d_X11_shine_72 rfl ?_
              refine zv_iload (pc := 74) d_X11_shine_74 rfl ?_
              refine zv_iload_n (pc := 76) d_X11_shine_76 rfl ?_
              refine zv_iload (pc := 77) d_X11_shine_77 rfl ?_
              refine zv_iload (pc := 79) d_X11_shine_79 rfl ?_
              refine zv_iload (pc := 81) d_X11_shine_81 rfl ?_
              refine zv_iload (pc := 83) d_X11_shine_83 rfl ?_
              refine zv_iload (pc := 85) d_X11_shine_85 rfl ?_
              obtain ⟨q14, hq14, hf⟩ := zw_bdE hf
              refine zx_callV (pc := 87) (As := [.int q2, .int q3, .int v3, .int v4, .int v5, .int v6, .int v7, .int v8]) (o := v0) (st := []) (d2 := 4) (M2 := M_X11_shines) (P2 := (fun r S => r = none ∧ S = (q14, R, J))) d_X11_shine_87 (zw_mG (List.mem_of_getElem? (i := 1603) (by decide +kernel)) rfl) ce_X11_shines (zw_RvK g1 rfl rfl) (Nat.le_of_ble_eq_true rfl) rfl (Nat.le_of_ble_eq_true rfl) (by decide) (c_X11_shines X v0 q2 q3 v3 v4 v5 v6 v7 v8 I R J _ hq14 ⟨rfl, rfl⟩) ?_
              rintro _ _ ⟨rfl, rfl⟩
              show zy_V X M_X11_shine 5 P (87 + 3) [.ref v0, .int v1, .int v2, .int v3, .int v4, .int v5, .int v6, .int v7, .int v8, .int q2, .int q3, .null] [] (q14, R, J)
              refine zv_aload_n (pc := 90) d_X11_shine_90 rfl ?_
              refine zv_iconst (pc := 91) d_X11_shine_91 zc_i_1 ?_
              obtain ⟨I15, eI15, hf⟩ := zw_letE hf
              refine zx_putZ (pc := 92) (I2 := I15) d_X11_shine_92 lk_CutStonesModel_267 rfl (Or.inr rfl) g1 eI15 ?_
              refine zv_aload_n (pc := 95) d_X11_shine_95 rfl ?_
              refine zv_aload_n (pc := 96) d_X11_shine_96 rfl ?_
              obtain ⟨g16, hf⟩ := zw_gcE hf (by decide)
              refine zx_getR (pc := 97) d_X11_shine_97 lk_CutStonesModel_64 (by decide) g1 g16 ?_
              refine zv_iload (pc := 100) d_X11_shine_100 rfl ?_
              obtain ⟨i17, hf⟩ := zw_inE hf
              refine zx_iald (pc := 102) d_X11_shine_102 g16 i17 ?_
              obtain ⟨I18, eI18, hf⟩ := zw_letE hf
              refine zx_putI (pc := 103) (I2 := I18) d_X11_shine_103 lk_CutStonesModel_416 rfl g1 eI18 ?_
              refine zv_iconst (pc := 106) d_X11_shine_106 zc_i_0 ?_
              refine zx_istore (pc := 107) (x2 := 0) (L2 := [.ref v0, .int v1, .int v2, .int v3, .int v4, .int v5, .int v6, .int v7, .int v8, .int q2, .int q3, .int 0]) d_X11_shine_107 (by decide) rfl rfl ?_
              obtain ⟨q27, hq27, hf⟩ := zw_bdE hf
              refine zx_weak (L' := [.ref v0, .null, .null, .null, .null, .null, .null, .null, .null, .null, .null, .int 0]) (zw_leS (zw_leN (zw_leN (zw_leN (zw_leN (zw_leN (zw_leN (zw_leN (zw_leN (zw_leN (zw_leN (zw_leS zw_leZ)))))))))))) (s_X11_shine_109_lp X P v0 R J _ _ _ hq27 ?_)
              show zy_V X M_X11_shine 5 P 136 [.ref v0, .null, .null, .null, .null, .null, .null, .null, .null, .null, .null, .null] [] (q27, R, J)
              refine zv_iconst (pc := 136) d_X11_shine_136 zc_i_0 ?_
              refine zx_istore (pc := 137) (x2 := 0) (L2 := [.ref v0, .null, .null, .null, .null, .null, .null, .null, .null, .null, .null, .int 0]) d_X11_shine_137 (by decide) rfl rfl ?_
              obtain ⟨q36, hq36, hf⟩ := zw_bdE hf
              refine zx_weak (L' := [.ref v0, .null, .null, .null, .null, .null, .null, .null, .null, .null, .null, .int 0]) (zw_leS (zw_leN (zw_leN (zw_leN (zw_leN (zw_leN (zw_leN (zw_leN (zw_leN (zw_leN (zw_leN (zw_leS zw_leZ)))))))))))) (s_X11_shine_139_lp X P v0 R J _ _ _ hq36 ?_)
              show zy_V X M_X11_shine 5 P 166 [.ref v0, .null, .null, .null, .null, .null, .null, .null, .null, .null, .null, .null] [] (q36, R, J)
              refine zv_aload_n (pc := 166) d_X11_shine_166 rfl ?_
              obtain ⟨g37, hf⟩ := zw_gcE hf (by decide)
              refine zx_getR (pc := 167) d_X11_shine_167 lk_CutStonesModel_143 (by decide) g1 g37 ?_
              refine zv_iconst (pc := 170) d_X11_shine_170 zc_i_0 ?_
              refine zv_aload_n (pc := 171) d_X11_shine_171 rfl ?_
              obtain ⟨g38, hf⟩ := zw_gcE hf (by decide)
              refine zx_getR (pc := 172) d_X11_shine_172 lk_CutStonesModel_119 (by decide) g1 g38 ?_
              refine zv_iconst (pc := 175) d_X11_shine_175 zc_i_0 ?_
              obtain ⟨i39, hf⟩ := zw_inE hf
              refine zx_iald (pc := 176) d_X11_shine_176 g38 i39 ?_
              obtain ⟨i40, hf⟩ := zw_inE hf
              obtain ⟨I41, eI41, hf⟩ := zw_letE hf
              refine zx_iast (pc := 177) (I2 := I41) d_X11_shine_177 g37 i40 eI41 ?_
              refine zv_aload_n (pc := 178) d_X11_shine_178 rfl ?_
              refine zx_getR (pc := 179) d_X11_shine_179 lk_CutStonesModel_143 (by decide) g1 g37 ?_
              refine zv_iconst (pc := 182) d_X11_shine_182 zc_i_1 ?_
              refine zv_aload_n (pc := 183) d_X11_shine_183 rfl ?_
              refine zx_getR (pc := 184) d_X11_shine_184 lk_CutStonesModel_119 (by decide) g1 g38 ?_
              refine zv_iconst (pc := 187) d_X11_shine_187 zc_i_1 ?_
              obtain ⟨i42, hf⟩ := zw_inE hf
              refine zx_iald (pc := 188) d_X11_shine_188 g38 i42 ?_
              obtain ⟨i43, hf⟩ := zw_inE hf
              obtain ⟨I44, eI44, hf⟩ := zw_letE hf
              refine zx_iast (pc := 189) (I2 := I44) d_X11_shine_189 g37 i43 eI44 ?_
              refine zv_aload_n (pc := 190) d_X11_shine_190 rfl ?_
              refine zx_getR (pc := 191) d_X11_shine_191 lk_CutStonesModel_143 (by decide) g1 g37 ?_
              refine zv_iconst (pc := 194) d_X11_shine_194 zc_i_2 ?_
              refine zv_aload_n (pc := 195) d_X11_shine_195 rfl ?_
              refine zx_getR (pc := 196) d_X11_shine_196 lk_CutStonesModel_119 (by decide) g1 g38 ?_
              refine zv_iconst (pc := 199) d_X11_shine_199 zc_i_2 ?_
              obtain ⟨i45, hf⟩ := zw_inE hf
              refine zx_iald (pc := 200) d_X11_shine_200 g38 i45 ?_
              obtain ⟨i46, hf⟩ := zw_inE hf
              obtain ⟨I47, eI47, hf⟩ := zw_letE hf
              refine zx_iast (pc := 201) (I2 := I47) d_X11_shine_201 g37 i46 eI47 ?_
              refine zv_aload_n (pc := 202) d_X11_shine_202 rfl ?_
              refine zx_getR (pc := 203) d_X11_shine_203 lk_CutStonesModel_143 (by decide) g1 g37 ?_
              refine zv_iconst (pc := 206) d_X11_shine_206 zc_i_3 ?_
              refine zv_aload_n (pc := 207) d_X11_shine_207 rfl ?_
              refine zx_getR (pc := 208) d_X11_shine_208 lk_CutStonesModel_119 (by decide) g1 g38 ?_
              refine zv_iconst (pc := 211) d_X11_shine_211 zc_i_4 ?_
              obtain ⟨i48, hf⟩ := zw_inE hf
              refine zx_iald (pc := 212) d_X11_shine_212 g38 i48 ?_
              obtain ⟨i49, hf⟩ := zw_inE hf
              obtain ⟨I50, eI50, hf⟩ := zw_letE hf
              refine zx_iast (pc := 213) (I2 := I50) d_X11_shine_213 g37 i49 eI50 ?_
              refine zv_aload_n (pc := 214) d_X11_shine_214 rfl ?_
              refine zx_getR (pc := 215) d_X11_shine_215 lk_CutStonesModel_143 (by decide) g1 g37 ?_
              refine zv_iconst (pc := 218) d_X11_shine_218 zc_i_4 ?_
              refine zv_aload_n (pc := 219) d_X11_shine_219 rfl ?_
              refine zx_getI (pc := 220) d_X11_shine_220 lk_CutStonesModel_340 (by decide) g1 ?_
              obtain ⟨i51, hf⟩ := zw_inE hf
              obtain ⟨I52, eI52, hf⟩ := zw_letE hf
              refine zx_iast (pc := 223) (I2 := I52) d_X11_shine_223 g37 i51 eI52 ?_
              refine zv_aload_n (pc := 224) d_X11_shine_224 rfl ?_
              refine zx_getR (pc := 225) d_X11_shine_225 lk_CutStonesModel_143 (by decide) g1 g37 ?_
              refine zv_iconst (pc := 228) d_X11_shine_228 zc_i_5 ?_
              refine zv_aload_n (pc := 229) d_X11_shine_229 rfl ?_
              refine zx_getI (pc := 230) d_X11_shine_230 lk_CutStonesModel_328 (by decide) g1 ?_
              obtain ⟨i53, hf⟩ := zw_inE hf
              obtain ⟨I54, eI54, hf⟩ := zw_letE hf
              refine zx_iast (pc := 233) (I2 := I54) d_X11_shine_233 g37 i53 eI54 ?_
              refine zv_aload_n (pc := 234) d_X11_shine_234 rfl ?_
              refine zx_getR (pc := 235) d_X11_shine_235 lk_CutStonesModel_143 (by decide) g1 g37 ?_
              refine zv_bipush (pc := 238) d_X11_shine_238 zc_b_6 ?_
              refine zv_aload_n (pc := 240) d_X11_shine_240 rfl ?_
              refine zx_getI (pc := 241) d_X11_shine_241 lk_CutStonesModel_331 (by decide) g1 ?_
              obtain ⟨i55, hf⟩ := zw_inE hf
              obtain ⟨I56, eI56, hf⟩ := zw_letE hf
              refine zx_iast (pc := 244) (I2 := I56) d_X11_shine_244 g37 i55 eI56 ?_
              refine zv_aload_n (pc := 245) d_X11_shine_245 rfl ?_
              refine zx_getR (pc := 246) d_X11_shine_246 lk_CutStonesModel_143 (by decide) g1 g37 ?_
              refine zv_bipush (pc := 249) d_X11_shine_249 zc_b_7 ?_
              refine zv_aload_n (pc := 251) d_X11_shine_251 rfl ?_
              refine zx_getI (pc := 252) d_X11_shine_252 lk_CutStonesModel_334 (by decide) g1 ?_
              obtain ⟨i57, hf⟩ := zw_inE hf
              obtain ⟨I58, eI58, hf⟩ := zw_letE hf
              refine zx_iast (pc := 255) (I2 := I58) d_X11_shine_255 g37 i57 eI58 ?_
              refine zv_aload_n (pc := 256) d_X11_shine_256 rfl ?_
              refine zx_getR (pc := 257) d_X11_shine_257 lk_CutStonesModel_143 (by decide) g1 g37 ?_
              refine zv_bipush (pc := 260) d_X11_shine_260 zc_b_8 ?_
              refine zv_aload_n (pc := 262) d_X11_shine_262 rfl ?_
              refine zx_getI (pc := 263) d_X11_shine_263 lk_CutStonesModel_343 (by decide) g1 ?_
              obtain ⟨i59, hf⟩ := zw_inE hf
              obtain ⟨I60, eI60, hf⟩ := zw_letE hf
              refine zx_iast (pc := 266) (I2 := I60) d_X11_shine_266 g37 i59 eI60 ?_
              refine zv_aload_n (pc := 267) d_X11_shine_267 rfl ?_
              refine zx_getR (pc := 268) d_X11_shine_268 lk_CutStonesModel_119 (by decide) g1 g38 ?_
              refine zv_iconst (pc := 271) d_X11_shine_271 zc_i_0 ?_
              obtain ⟨i61, hf⟩ := zw_inE hf
              refine zx_iald (pc := 272) d_X11_shine_272 g38 i61 ?_
              cases hf
              exact zx_iret (pc := 273) d_X11_shine_273 rfl hk
            · refine zv_if_ne (pc := 66) (tg := 71) d_X11_shine_66 (by decide) (fun q => absurd q c13) (fun _ => ?_)
              refine zv_iconst (pc := 69) d_X11_shine_69 zc_i_m1 ?_
              cases hf
              exact zx_iret (pc := 70) d_X11_shine_70 rfl hk
abbrev M_X11_tellRule : zw_M := (⟨"CutStonesModel", "tellRule", "(IZ)V"⟩, prog_13_method_27_code, 5, (Option.none : Option Jvm.ClassFile.FieldType))
theorem d_X11_tellRule_0 : decode M_X11_tellRule.2.1 0 = .ok (.aload_n 0, 1) := by decide +kernel
theorem d_X11_tellRule_1 : decode M_X11_tellRule.2.1 1 = .ok (.invokevirtual 239, 3) := by decide +kernel
theorem d_X11_tellRule_4 : decode M_X11_tellRule.2.1 4 = .ok (.aload_n 0, 1) := by decide +kernel
theorem d_X11_tellRule_5 : decode M_X11_tellRule.2.1 5 = .ok (.invokevirtual 293, 3) := by decide +kernel
theorem d_X11_tellRule_8 : decode M_X11_tellRule.2.1 8 = .ok (.aload_n 0, 1) := by decide +kernel
theorem d_X11_tellRule_9 : decode M_X11_tellRule.2.1 9 = .ok (.getfield 79, 3) := by decide +kernel
theorem d_X11_tellRule_12 : decode M_X11_tellRule.2.1 12 = .ok (.iload_n 1, 1) := by decide +kernel
theorem d_X11_tellRule_13 : decode M_X11_tellRule.2.1 13 = .ok (.aload_n 0, 1) := by decide +kernel
theorem d_X11_tellRule_14 : decode M_X11_tellRule.2.1 14 = .ok (.getfield 257, 3) := by decide +kernel
theorem d_X11_tellRule_17 : decode M_X11_tellRule.2.1 17 = .ok (.iastore, 1) := by decide +kernel
theorem d_X11_tellRule_18 : decode M_X11_tellRule.2.1 18 = .ok (.iload_n 2, 1) := by decide +kernel
theorem d_X11_tellRule_19 : decode M_X11_tellRule.2.1 19 = .ok (.ifCond .eq 7, 3) := by decide +kernel
theorem d_X11_tellRule_22 : decode M_X11_tellRule.2.1 22 = .ok (.aload_n 0, 1) := by decide +kernel
theorem d_X11_tellRule_23 : decode M_X11_tellRule.2.1 23 = .ok (.invokevirtual 299, 3) := by decide +kernel
theorem d_X11_tellRule_26 : decode M_X11_tellRule.2.1 26 = .ok (.aload_n 0, 1) := by decide +kernel
theorem d_X11_tellRule_27 : decode M_X11_tellRule.2.1 27 = .ok (.getfield 82, 3) := by decide +kernel
theorem d_X11_tellRule_30 : decode M_X11_tellRule.2.1 30 = .ok (.iload_n 1, 1) := by decide +kernel
theorem d_X11_tellRule_31 : decode M_X11_tellRule.2.1 31 = .ok (.aload_n 0, 1) := by decide +kernel
theorem d_X11_tellRule_32 : decode M_X11_tellRule.2.1 32 = .ok (.getfield 257, 3) := by decide +kernel
theorem d_X11_tellRule_35 : decode M_X11_tellRule.2.1 35 = .ok (.iastore, 1) := by decide +kernel
theorem d_X11_tellRule_36 : decode M_X11_tellRule.2.1 36 = .ok (.aload_n 0, 1) := by decide +kernel
theorem d_X11_tellRule_37 : decode M_X11_tellRule.2.1 37 = .ok (.getfield 85, 3) := by decide +kernel
theorem d_X11_tellRule_40 : decode M_X11_tellRule.2.1 40 = .ok (.iload_n 1, 1) := by decide +kernel
theorem d_X11_tellRule_41 : decode M_X11_tellRule.2.1 41 = .ok (.aload_n 0, 1) := by decide +kernel
theorem d_X11_tellRule_42 : decode M_X11_tellRule.2.1 42 = .ok (.getfield 254, 3) := by decide +kernel
theorem d_X11_tellRule_45 : decode M_X11_tellRule.2.1 45 = .ok (.iastore, 1) := by decide +kernel
theorem d_X11_tellRule_46 : decode M_X11_tellRule.2.1 46 = .ok (.aload_n 0, 1) := by decide +kernel
theorem d_X11_tellRule_47 : decode M_X11_tellRule.2.1 47 = .ok (.bipush 26, 2) := by decide +kernel
theorem d_X11_tellRule_49 : decode M_X11_tellRule.2.1 49 = .ok (.invokevirtual 236, 3) := by decide +kernel
theorem d_X11_tellRule_52 : decode M_X11_tellRule.2.1 52 = .ok (.istore_n 3, 1) := by decide +kernel
theorem d_X11_tellRule_53 : decode M_X11_tellRule.2.1 53 = .ok (.iload_n 2, 1) := by decide +kernel
theorem d_X11_tellRule_54 : decode M_X11_tellRule.2.1 54 = .ok (.ifCond .ne 12, 3) := by decide +kernel
theorem d_X11_tellRule_57 : decode M_X11_tellRule.2.1 57 = .ok (.aload_n 0, 1) := by decide +kernel
theorem d_X11_tellRule_58 : decode M_X11_tellRule.2.1 58 = .ok (.bipush 26, 2) := by decide +kernel
theorem d_X11_tellRule_60 : decode M_X11_tellRule.2.1 60 = .ok (.invokevirtual 286, 3) := by decide +kernel
theorem d_X11_tellRule_63 : decode M_X11_tellRule.2.1 63 = .ok (.goto 11, 3) := by decide +kernel
theorem d_X11_tellRule_66 : decode M_X11_tellRule.2.1 66 = .ok (.iload_n 3, 1) := by decide +kernel
theorem d_X11_tellRule_67 : decode M_X11_tellRule.2.1 67 = .ok (.ifCond .eq 7, 3) := by decide +kernel
theorem d_X11_tellRule_70 : decode M_X11_tellRule.2.1 70 = .ok (.aload_n 0, 1) := by decide +kernel
theorem d_X11_tellRule_71 : decode M_X11_tellRule.2.1 71 = .ok (.invokevirtual 239, 3) := by decide +kernel
theorem d_X11_tellRule_74 : decode M_X11_tellRule.2.1 74 = .ok (.iconst 1, 1) := by decide +kernel
theorem d_X11_tellRule_75 : decode M_X11_tellRule.2.1 75 = .ok (.istore 4, 2) := by decide +kernel
theorem d_X11_tellRule_77 : decode M_X11_tellRule.2.1 77 = .ok (.iload_n 3, 1) := by decide +kernel
theorem d_X11_tellRule_78 : decode M_X11_tellRule.2.1 78 = .ok (.ifCond .eq 55, 3) := by decide +kernel
theorem d_X11_tellRule_81 : decode M_X11_tellRule.2.1 81 = .ok (.aload_n 0, 1) := by decide +kernel
theorem d_X11_tellRule_82 : decode M_X11_tellRule.2.1 82 = .ok (.getfield 218, 3) := by decide +kernel
theorem d_X11_tellRule_85 : decode M_X11_tellRule.2.1 85 = .ok (.ifCond .ne 48, 3) := by decide +kernel
theorem d_X11_tellRule_88 : decode M_X11_tellRule.2.1 88 = .ok (.aload_n 0, 1) := by decide +kernel
theorem d_X11_tellRule_89 : decode M_X11_tellRule.2.1 89 = .ok (.iload 4, 2) := by decide +kernel
theorem d_X11_tellRule_91 : decode M_X11_tellRule.2.1 91 = .ok (.invokevirtual 302, 3) := by decide +kernel
theorem d_X11_tellRule_94 : decode M_X11_tellRule.2.1 94 = .ok (.aload_n 0, 1) := by decide +kernel
theorem d_X11_tellRule_95 : decode M_X11_tellRule.2.1 95 = .ok (.bipush 27, 2) := by decide +kernel
theorem d_X11_tellRule_97 : decode M_X11_tellRule.2.1 97 = .ok (.invokevirtual 236, 3) := by decide +kernel
theorem d_X11_tellRule_100 : decode M_X11_tellRule.2.1 100 = .ok (.istore 4, 2) := by decide +kernel
theorem d_X11_tellRule_102 : decode M_X11_tellRule.2.1 102 = .ok (.iload 4, 2) := by decide +kernel
theorem d_X11_tellRule_104 : decode M_X11_tellRule.2.1 104 = .ok (.ifCond .ne 12, 3) := by decide +kernel
theorem d_X11_tellRule_107 : decode M_X11_tellRule.2.1 107 = .ok (.aload_n 0, 1) := by decide +kernel
theorem d_X11_tellRule_108 : decode M_X11_tellRule.2.1 108 = .ok (.bipush 28, 2) := by decide +kernel
theorem d_X11_tellRule_110 : decode M_X11_tellRule.2.1 110 = .ok (.invokevirtual 236, 3) := by decide +kernel
theorem d_X11_tellRule_113 : decode M_X11_tellRule.2.1 113 = .ok (.ifCond .eq 7, 3) := by decide +kernel
theorem d_X11_tellRule_116 : decode M_X11_tellRule.2.1 116 = .ok (.iconst 1, 1) := by decide +kernel
theorem d_X11_tellRule_117 : decode M_X11_tellRule.2.1 117 = .ok (.goto 4, 3) := by decide +kernel
theorem d_X11_tellRule_120 : decode M_X11_tellRule.2.1 120 = .ok (.iconst 0, 1) := by decide +kernel
theorem d_X11_tellRule_121 : decode M_X11_tellRule.2.1 121 = .ok (.istore_n 3, 1) := by decide +kernel
theorem d_X11_tellRule_122 : decode M_X11_tellRule.2.1 122 = .ok (.iload_n 3, 1) := by decide +kernel
theorem d_X11_tellRule_123 : decode M_X11_tellRule.2.1 123 = .ok (.ifCond .eq (-46), 3) := by decide +kernel
theorem d_X11_tellRule_126 : decode M_X11_tellRule.2.1 126 = .ok (.aload_n 0, 1) := by decide +kernel
theorem d_X11_tellRule_127 : decode M_X11_tellRule.2.1 127 = .ok (.invokevirtual 239, 3) := by decide +kernel
theorem d_X11_tellRule_130 : decode M_X11_tellRule.2.1 130 = .ok (.goto (-53), 3) := by decide +kernel
theorem d_X11_tellRule_133 : decode M_X11_tellRule.2.1 133 = .ok (.aload_n 0, 1) := by decide +kernel
theorem d_X11_tellRule_134 : decode M_X11_tellRule.2.1 134 = .ok (.iconst 4, 1) := by decide +kernel
theorem d_X11_tellRule_135 : decode M_X11_tellRule.2.1 135 = .ok (.invokevirtual 286, 3) := by decide +kernel
theorem d_X11_tellRule_138 : decode M_X11_tellRule.2.1 138 = .ok (.aload_n 0, 1) := by decide +kernel
theorem d_X11_tellRule_139 : decode M_X11_tellRule.2.1 139 = .ok (.getfield 88, 3) := by decide +kernel
theorem d_X11_tellRule_142 : decode M_X11_tellRule.2.1 142 = .ok (.iload_n 1, 1) := by decide +kernel
theorem d_X11_tellRule_143 : decode M_X11_tellRule.2.1 143 = .ok (.aload_n 0, 1) := by decide +kernel
theorem d_X11_tellRule_144 : decode M_X11_tellRule.2.1 144 = .ok (.getfield 254, 3) := by decide +kernel
theorem d_X11_tellRule_147 : decode M_X11_tellRule.2.1 147 = .ok (.iastore, 1) := by decide +kernel
theorem d_X11_tellRule_148 : decode M_X11_tellRule.2.1 148 = .ok (.aload_n 0, 1) := by decide +kernel
theorem d_X11_tellRule_149 : decode M_X11_tellRule.2.1 149 = .ok (.getfield 218, 3) := by decide +kernel
theorem d_X11_tellRule_152 : decode M_X11_tellRule.2.1 152 = .ok (.ifCond .le 4, 3) := by decide +kernel
theorem d_X11_tellRule_155 : decode M_X11_tellRule.2.1 155 = .ok (.return_, 1) := by decide +kernel
theorem d_X11_tellRule_156 : decode M_X11_tellRule.2.1 156 = .ok (.iload_n 2, 1) := by decide +kernel
theorem d_X11_tellRule_157 : decode M_X11_tellRule.2.1 157 = .ok (.ifCond .eq 19, 3) := by decide +kernel
theorem d_X11_tellRule_160 : decode M_X11_tellRule.2.1 160 = .ok (.aload_n 0, 1) := by decide +kernel
theorem d_X11_tellRule_161 : decode M_X11_tellRule.2.1 161 = .ok (.getfield 76, 3) := by decide +kernel
theorem d_X11_tellRule_164 : decode M_X11_tellRule.2.1 164 = .ok (.aload_n 0, 1) := by decide +kernel
theorem d_X11_tellRule_165 : decode M_X11_tellRule.2.1 165 = .ok (.getfield 251, 3) := by decide +kernel
theorem d_X11_tellRule_168 : decode M_X11_tellRule.2.1 168 = .ok (.dup2, 1) := by decide +kernel
theorem d_X11_tellRule_169 : decode M_X11_tellRule.2.1 169 = .ok (.iaload, 1) := by decide +kernel
theorem d_X11_tellRule_170 : decode M_X11_tellRule.2.1 170 = .ok (.iconst 1, 1) := by decide +kernel
theorem d_X11_tellRule_171 : decode M_X11_tellRule.2.1 171 = .ok (.iadd, 1) := by decide +kernel
theorem d_X11_tellRule_172 : decode M_X11_tellRule.2.1 172 = .ok (.iastore, 1) := by decide +kernel
theorem d_X11_tellRule_173 : decode M_X11_tellRule.2.1 173 = .ok (.goto 16, 3) := by decide +kernel
theorem d_X11_tellRule_176 : decode M_X11_tellRule.2.1 176 = .ok (.aload_n 0, 1) := by decide +kernel
theorem d_X11_tellRule_177 : decode M_X11_tellRule.2.1 177 = .ok (.getfield 73, 3) := by decide +kernel
theorem d_X11_tellRule_180 : decode M_X11_tellRule.2.1 180 = .ok (.aload_n 0, 1) := by decide +kernel
theorem d_X11_tellRule_181 : decode M_X11_tellRule.2.1 181 = .ok (.getfield 251, 3) := by decide +kernel
theorem d_X11_tellRule_184 : decode M_X11_tellRule.2.1 184 = .ok (.dup2, 1) := by decide +kernel
theorem d_X11_tellRule_185 : decode M_X11_tellRule.2.1 185 = .ok (.iaload, 1) := by decide +kernel
theorem d_X11_tellRule_186 : decode M_X11_tellRule.2.1 186 = .ok (.iconst 1, 1) := by decide +kernel
theorem d_X11_tellRule_187 : decode M_X11_tellRule.2.1 187 = .ok (.iadd, 1) := by decide +kernel
theorem d_X11_tellRule_188 : decode M_X11_tellRule.2.1 188 = .ok (.iastore, 1) := by decide +kernel
theorem d_X11_tellRule_189 : decode M_X11_tellRule.2.1 189 = .ok (.return_, 1) := by decide +kernel
theorem ce_X11_tellRule : zw_CeV M_X11_tellRule 2 := ⟨⟨⟨by decide +kernel, by decide +kernel, by decide +kernel⟩, (zw_mG (List.mem_of_getElem? (i := 1485) (by decide +kernel)) rfl), (zw_mG (List.mem_of_getElem? (i := 108) (by decide +kernel)) rfl), by decide, by decide +kernel⟩, (zw_mG (List.mem_of_getElem? (i := 1484) (by decide +kernel)) rfl), (zw_mG (List.mem_of_getElem? (i := 64) (by decide +kernel)) rfl)⟩
def j_X11_tellRule_121_77 (v0 : Nat) (v1 : Int32) (v2 : Int32) (v4 : Int32) (s0 : Int32) (I : zI) (R : zR) (J : zJ) : Option ((Int32 × Int32 × zI) ⊕ (zI)) :=
  if s0 = 0 then some (.inl (s0, v4, I)) else zw_g (zw_gc v0 11) ((f_X11_goesOn v0 I R).bind fun q26 => (some (.inl (s0, v4, q26))))
theorem j_X11_tellRule_121_77_ok (X : zw_X) (P : Option Value → aS → Prop) (v0 : Nat) (v1 : Int32) (v2 : Int32) (v4 : Int32) (s0 : Int32) (I : zI) (R : zR) (J : zJ) (o : (Int32 × Int32 × zI) ⊕ (zI)) (hf : j_X11_tellRule_121_77 v0 v1 v2 v4 s0 I R J = some o) (hk : (zw_se (fun t => zy_V X M_X11_tellRule 5 P 77 [.ref v0, .int v1, .int v2, .int t.1, .int t.2.1] [] (t.2.2, R, J)) (fun r => zy_V X M_X11_tellRule 5 P 133 [.ref v0, .int v1, .int v2, .null, .null] [] (r, R, J)) o)) : zy_V X M_X11_tellRule 5 P 121 [.ref v0, .int v1, .int v2, .null, .int v4] [.int s0] (I, R, J) := by
  unfold j_X11_tellRule_121_77 at hf
  refine zx_istore_n (pc := 121) (x2 := s0) (L2 := [.ref v0, .int v1, .int v2, .int s0, .int v4]) d_X11_tellRule_121 (by decide) rfl rfl ?_
  refine zv_iload_n (pc := 122) d_X11_tellRule_122 rfl ?_
  rcases zw_ifE hf with ⟨c24, hf⟩ | ⟨c24, hf⟩
  · refine zv_if_eq (pc := 123) (tg := 77) d_X11_tellRule_123 (by decide) (fun _ => ?_) (fun q => absurd c24 q)
    cases hf
    exact zx_weak (zw_leS (zw_leS (zw_leS (zw_leS (zw_leS zw_leZ))))) hk
  · refine zv_if_eq (pc := 123) (tg := 77) d_X11_tellRule_123 (by decide) (fun q => absurd q c24) (fun _ => ?_)
    refine zv_aload_n (pc := 126) d_X11_tellRule_126 rfl ?_
    obtain ⟨g25, hf⟩ := zw_gcE hf (by decide)
    obtain ⟨q26, hq26, hf⟩ := zw_bdE hf
    refine zx_callV (pc := 127) (As := []) (o := v0) (st := []) (d2 := 1) (M2 := M_X11_goesOn) (P2 := (fun r S => r = none ∧ S = (q26, R, J))) d_X11_tellRule_127 (zw_mG (List.mem_of_getElem? (i := 1458) (by decide +kernel)) rfl) ce_X11_goesOn (zw_RvK g25 rfl rfl) (Nat.le_of_ble_eq_true rfl) rfl (Nat.le_of_ble_eq_true rfl) (by decide) (c_X11_goesOn X v0 I R J _ hq26 ⟨rfl, rfl⟩) ?_
    rintro _ _ ⟨rfl, rfl⟩
    show zy_V X M_X11_tellRule 5 P (127 + 3) [.ref v0, .int v1, .int v2, .int s0, .int v4] [] (q26, R, J)
    refine zv_goto (pc := 130) (tg := 77) d_X11_tellRule_130 (by decide) ?_
    cases hf
    exact zx_weak (zw_leS (zw_leS (zw_leS (zw_leS (zw_leS zw_leZ))))) hk
def j_X11_tellRule_116_77 (v0 : Nat) (v1 : Int32) (v2 : Int32) (v4 : Int32) (I : zI) (R : zR) (J : zJ) : Option ((Int32 × Int32 × zI) ⊕ (zI)) :=
  j_X11_tellRule_121_77 v0 v1 v2 v4 1 I R J
theorem j_X11_tellRule_116_77_ok (X : zw_X) (P : Option Value → aS → Prop) (v0 : Nat) (v1 : Int32) (v2 : Int32) (v4 : Int32) (I : zI) (R : zR) (J : zJ) (o : (Int32 × Int32 × zI) ⊕ (zI)) (hf : j_X11_tellRule_116_77 v0 v1 v2 v4 I R J = some o) (hk : (zw_se (fun t => zy_V X M_X11_tellRule 5 P 77 [.ref v0, .int v1, .int v2, .int t.1, .int t.2.1] [] (t.2.2, R, J)) (fun r => zy_V X M_X11_tellRule 5 P 133 [.ref v0, .int v1, .int v2, .null, .null] [] (r, R, J)) o)) : zy_V X M_X11_tellRule 5 P 116 [.ref v0, .int v1, .int v2, .null, .int v4] [] (I, R, J) := by
  unfold j_X11_tellRule_116_77 at hf
  refine zv_iconst (pc := 116) d_X11_tellRule_116 zc_i_1 ?_
  refine zv_goto (pc := 117) (tg := 121) d_X11_tellRule_117 (by decide) ?_
  exact zx_weak (zw_leS (zw_leS (zw_leS (zw_leN (zw_leS zw_leZ))))) (j_X11_tellRule_121_77_ok X P v0 v1 v2 v4 1 I R J _ hf hk)
def s_X11_tellRule_77 (v0 : Nat) (v1 : Int32) (v2 : Int32) (R : zR) (J : zJ) (s : Int32 × Int32 × zI) : Option ((Int32 × Int32 × zI) ⊕ (zI)) :=
  if s.1 = 0 then some (.inr s.2.2) else zw_g (zw_gc v0 11) (if ¬ (s.2.2 v0 13) = 0 then some (.inr s.2.2) else (f_X11_literal v0 s.2.1 s.2.2 R).bind fun q21 => ((f_X11_is v0 27 q21 R).bind fun q22 => (if ¬ q22 = 0 then j_X11_tellRule_116_77 v0 v1 v2 q22 q21 R J else (f_X11_is v0 28 q21 R).bind fun q27 => (if q27 = 0 then j_X11_tellRule_121_77 v0 v1 v2 q22 0 q21 R J else j_X11_tellRule_116_77 v0 v1 v2 q22 q21 R J))))
theorem s_X11_tellRule_77_ok (X : zw_X) (P : Option Value → aS → Prop) (v0 : Nat) (v1 : Int32) (v2 : Int32) (R : zR) (J : zJ) (s : Int32 × Int32 × zI) (o : (Int32 × Int32 × zI) ⊕ (zI)) (hf : s_X11_tellRule_77 v0 v1 v2 R J s = some o) (hk : (zw_se (fun t => zy_V X M_X11_tellRule 5 P 77 [.ref v0, .int v1, .int v2, .int t.1, .int t.2.1] [] (t.2.2, R, J)) (fun r => zy_V X M_X11_tellRule 5 P 133 [.ref v0, .int v1, .int v2, .null, .null] [] (r, R, J)) o)) : zy_V X M_X11_tellRule 5 P 77 [.ref v0, .int v1, .int v2, .int s.1, .int s.2.1] [] (s.2.2, R, J) := by
  unfold s_X11_tellRule_77 at hf
  refine zv_iload_n (pc := 77) d_X11_tellRule_77 rfl ?_
  rcases zw_ifE hf with ⟨c18, hf⟩ | ⟨c18, hf⟩
  · refine zv_if_eq (pc := 78) (tg := 133) d_X11_tellRule_78 (by decide) (fun _ => ?_) (fun q => absurd c18 q)
    cases hf
    exact zx_weak (zw_leS (zw_leS (zw_leS (zw_leN (zw_leN zw_leZ))))) hk
  · refine zv_if_eq (pc := 78) (tg := 133) d_X11_tellRule_78 (by decide) (fun q => absurd q c18) (fun _ => ?_)
    refine zv_aload_n (pc := 81) d_X11_tellRule_81 rfl ?_
    obtain ⟨g19, hf⟩ := zw_gcE hf (by decide)
    refine zx_getI (pc := 82) d_X11_tellRule_82 lk_CutStonesModel_218 (by decide) g19 ?_
    rcases zw_ifE hf with ⟨c20, hf⟩ | ⟨c20, hf⟩
    · refine zv_if_ne (pc := 85) (tg := 133) d_X11_tellRule_85 (by decide) (fun _ => ?_) (fun q => absurd q c20)
      cases hf
      exact zx_weak (zw_leS (zw_leS (zw_leS (zw_leN (zw_leN zw_leZ))))) hk
    · refine zv_if_ne (pc := 85) (tg := 133) d_X11_tellRule_85 (by decide) (fun q => absurd q c20) (fun _ => ?_)
      refine zv_aload_n (pc := 88) d_X11_tellRule_88 rfl ?_
      refine zv_iload (pc := 89) d_X11_tellRule_89 rfl ?_
      obtain ⟨q21, hq21, hf⟩ := zw_bdE hf
      refine zx_callV (pc := 91) (As := [.int s.2.1]) (o := v0) (st := []) (d2 := 4) (M2 := M_X11_literal) (P2 := (fun r S => r = none ∧ S = (q21, R, J))) d_X11_tellRule_91 (zw_mG (List.mem_of_getElem? (i := 1502) (by decide +kernel)) rfl) ce_X11_literal (zw_RvK g19 rfl rfl) (Nat.le_of_ble_eq_true rfl) rfl (Nat.le_of_ble_eq_true rfl) (by decide) (c_X11_literal X v0 s.2.1 s.2.2 R J _ hq21 ⟨rfl, rfl⟩) ?_
      rintro _ _ ⟨rfl, rfl⟩
      show zy_V X M_X11_tellRule 5 P (91 + 3) [.ref v0, .int v1, .int v2, .int s.1, .int s.2.1] [] (q21, R, J)
      refine zv_aload_n (pc := 94) d_X11_tellRule_94 rfl ?_
      refine zv_bipush (pc := 95) d_X11_tellRule_95 zc_b_27 ?_
      obtain ⟨q22, hq22, hf⟩ := zw_bdE hf
      refine zx_callV (pc := 97) (As := [.int 27]) (o := v0) (st := []) (d2 := 0) (M2 := M_X11_is) (P2 := (fun r S => r = (some (.int q22)) ∧ S = (q21, R, J))) d_X11_tellRule_97 (zw_mG (List.mem_of_getElem? (i := 1442) (by decide +kernel)) rfl) ce_X11_is (zw_RvK g19 rfl rfl) (Nat.le_of_ble_eq_true rfl) rfl (Nat.le_of_ble_eq_true rfl) (by decide) (c_X11_is X v0 27 q21 R J _ hq22 ⟨rfl, rfl⟩) ?_
      rintro _ _ ⟨rfl, rfl⟩
      show zy_V X M_X11_tellRule 5 P (97 + 3) [.ref v0, .int v1, .int v2, .int s.1, .int s.2.1] [.int q22] (q21, R, J)
      refine zx_istore (pc := 100) (x2 := q22) (L2 := [.ref v0, .int v1, .int v2, .int s.1, .int q22]) d_X11_tellRule_100 (by decide) rfl rfl ?_
      refine zv_iload (pc := 102) d_X11_tellRule_102 rfl ?_
      rcases zw_ifE hf with ⟨c23, hf⟩ | ⟨c23, hf⟩
      · refine zv_if_ne (pc := 104) (tg := 116) d_X11_tellRule_104 (by decide) (fun _ => ?_) (fun q => absurd q c23)
        exact zx_weak (zw_leS (zw_leS (zw_leS (zw_leN (zw_leS zw_leZ))))) (j_X11_tellRule_116_77_ok X P v0 v1 v2 q22 q21 R J _ hf hk)
      · refine zv_if_ne (pc := 104) (tg := 116) d_X11_tellRule_104 (by decide) (fun q => absurd q c23) (fun _ => ?_)
        refine zv_aload_n (pc := 107) d_X11_tellRule_107 rfl ?_
        refine zv_bipush (pc := 108) d_X11_tellRule_108 zc_b_28 ?_
        obtain ⟨q27, hq27, hf⟩ := zw_bdE hf
        refine zx_callV (pc := 110) (As := [.int 28]) (o := v0) (st := []) (d2 := 0) (M2 := M_X11_is) (P2 := (fun r S => r = (some (.int q27)) ∧ S = (q21, R, J))) d_X11_tellRule_110 (zw_mG (List.mem_of_getElem? (i := 1442) (by decide +kernel)) rfl) ce_X11_is (zw_RvK g19 rfl rfl) (Nat.le_of_ble_eq_true rfl) rfl (Nat.le_of_ble_eq_true rfl) (by decide) (c_X11_is X v0 28 q21 R J _ hq27 ⟨rfl, rfl⟩) ?_
        rintro _ _ ⟨rfl, rfl⟩
        show zy_V X M_X11_tellRule 5 P (110 + 3) [.ref v0, .int v1, .int v2, .int s.1, .int q22] [.int q27] (q21, R, J)
        rcases zw_ifE hf with ⟨c28, hf⟩ | ⟨c28, hf⟩
        · refine zv_if_eq (pc := 113) (tg := 120) d_X11_tellRule_113 (by decide) (fun _ => ?_) (fun q => absurd c28 q)
          refine zv_iconst (pc := 120) d_X11_tellRule_120 zc_i_0 ?_
          exact zx_weak (zw_leS (zw_leS (zw_leS (zw_leN (zw_leS zw_leZ))))) (j_X11_tellRule_121_77_ok X P v0 v1 v2 q22 0 q21 R J _ hf hk)
        · refine zv_if_eq (pc := 113) (tg := 120) d_X11_tellRule_113 (by decide) (fun q => absurd q c28) (fun _ => ?_)
          exact zx_weak (zw_leS (zw_leS (zw_leS (zw_leN (zw_leS zw_leZ))))) (j_X11_tellRule_116_77_ok X P v0 v1 v2 q22 q21 R J _ hf hk)
theorem s_X11_tellRule_77_lp (X : zw_X) (P : Option Value → aS → Prop) (v0 : Nat) (v1 : Int32) (v2 : Int32) (R : zR) (J : zJ) (n : Nat) (s : Int32 × Int32 × zI) (r : zI) (h : zw_it (s_X11_tellRule_77 v0 v1 v2 R J) n s = some r) (hq : zy_V X M_X11_tellRule 5 P 133 [.ref v0, .int v1, .int v2, .null, .null] [] (r, R, J)) : zy_V X M_X11_tellRule 5 P 77 [.ref v0, .int v1, .int v2, .int s.1, .int s.2.1] [] (s.2.2, R, J) :=
  zw_itE (A := (fun t : Int32 × Int32 × zI => zy_V X M_X11_tellRule 5 P 77 [.ref v0, .int v1, .int v2, .int t.1, .int t.2.1] [] (t.2.2, R, J))) (Q := (fun r : zI => zy_V X M_X11_tellRule 5 P 133 [.ref v0, .int v1, .int v2, .null, .null] [] (r, R, J))) (fun s o h1 h2 => s_X11_tellRule_77_ok X P v0 v1 v2 R J s o h1 h2) n s r h hq
def j_X11_tellRule_133 (v0 : Nat) (v1 : Int32) (v2 : Int32) (I : zI) (R : zR) (J : zJ) : Option (zI × zJ) :=
  zw_g (zw_gc v0 11) ((f_X11_must v0 4 I R).bind fun q31 => (zw_g (zw_gc (R v0 36) 13) (zw_g (zw_in v1 (zw_SH (R v0 36)).2) (zw_let (zw_u q31 (R v0 36) (Int32.toNatClampNeg v1) (q31 v0 37) : zI) fun I34 => (if (I34 v0 13) ≤ 0 then if v2 = 0 then zw_g (zw_gc (R v0 31) 13) (zw_g (zw_in (I34 v0 19) (zw_SH (R v0 31)).2) (zw_g (zw_in (I34 v0 19) (zw_SH (R v0 31)).2) (zw_let (zw_u I34 (R v0 31) (Int32.toNatClampNeg (I34 v0 19)) ((I34 (R v0 31) (Int32.toNatClampNeg (I34 v0 19))) + 1) : zI) fun I40 => (some (I40, J))))) else zw_g (zw_gc (R v0 32) 13) (zw_g (zw_in (I34 v0 19) (zw_SH (R v0 32)).2) (zw_g (zw_in (I34 v0 19) (zw_SH (R v0 32)).2) (zw_let (zw_u I34 (R v0 32) (Int32.toNatClampNeg (I34 v0 19)) ((I34 (R v0 32) (Int32.toNatClampNeg (I34 v0 19))) + 1) : zI) fun I44 => (some (I44, J))))) else some (I34, J))))))
theorem j_X11_tellRule_133_ok (X : zw_X) (P : Option Value → aS → Prop) (v0 : Nat) (v1 : Int32) (v2 : Int32) (I : zI) (R : zR) (J : zJ) (o : zI × zJ) (hf : j_X11_tellRule_133 v0 v1 v2 I R J = some o) (hk : P none (o.1, R, o.2)) : zy_V X M_X11_tellRule 5 P 133 [.ref v0, .int v1, .int v2, .null, .null] [] (I, R, J) := by
  unfold j_X11_tellRule_133 at hf
  refine zv_aload_n (pc := 133) d_X11_tellRule_133 rfl ?_
  refine zv_iconst (pc := 134) d_X11_tellRule_134 zc_i_4 ?_
  obtain ⟨g30, hf⟩ := zw_gcE hf (by decide)
  obtain ⟨q31, hq31, hf⟩ := zw_bdE hf
  refine zx_callV (pc := 135) (As := [.int 4]) (o := v0) (st := []) (d2 := 2) (M2 := M_X11_must) (P2 := (fun r S => r = none ∧ S = (q31, R, J))) d_X11_tellRule_135 (zw_mG (List.mem_of_getElem? (i := 1466) (by decide +kernel)) rfl) ce_X11_must (zw_RvK g30 rfl rfl) (Nat.le_of_ble_eq_true rfl) rfl (Nat.le_of_ble_eq_true rfl) (by decide) (c_X11_must X v0 4 I R J _ hq31 ⟨rfl, rfl⟩) ?_
  rintro _ _ ⟨rfl, rfl⟩
  show zy_V X M_X11_tellRule 5 P (135 + 3) [.ref v0, .int v1, .int v2, .null, .null] [] (q31, R, J)
  refine zv_aload_n (pc := 138) d_X11_tellRule_138 rfl ?_
  obtain ⟨g32, hf⟩ := zw_gcE hf (by decide)
  refine zx_getR (pc := 139) d_X11_tellRule_139 lk_CutStonesModel_88 (by decide) g30 g32 ?_
  refine zv_iload_n (pc := 142) d_X11_tellRule_142 rfl ?_
  refine zv_aload_n (pc := 143) d_X11_tellRule_143 rfl ?_
  refine zx_getI (pc := 144) d_X11_tellRule_144 lk_CutStonesModel_254 (by decide) g30 ?_
  obtain ⟨i33, hf⟩ := zw_inE hf
  obtain ⟨I34, eI34, hf⟩ := zw_letE hf
  refine zx_iast (pc := 147) (I2 := I34) d_X11_tellRule_147 g32 i33 eI34 ?_
  refine zv_aload_n (pc := 148) d_X11_tellRule_148 rfl ?_
  refine zx_getI (pc := 149) d_X11_tellRule_149 lk_CutStonesModel_218 (by decide) g30 ?_
  rcases zw_ifE hf with ⟨c35, hf⟩ | ⟨c35, hf⟩
  · refine zv_if_le (pc := 152) (tg := 156) d_X11_tellRule_152 (by decide) (fun _ => ?_) (fun q => absurd c35 q)
    refine zv_iload_n (pc := 156) d_X11_tellRule_156 rfl ?_
    rcases zw_ifE hf with ⟨c36, hf⟩ | ⟨c36, hf⟩
    · refine zv_if_eq (pc := 157) (tg := 176) d_X11_tellRule_157 (by decide) (fun _ => ?_) (fun q => absurd c36 q)
      refine zv_aload_n (pc := 176) d_X11_tellRule_176 rfl ?_
      obtain ⟨g37, hf⟩ := zw_gcE hf (by decide)
      refine zx_getR (pc := 177) d_X11_tellRule_177 lk_CutStonesModel_73 (by decide) g30 g37 ?_
      refine zv_aload_n (pc := 180) d_X11_tellRule_180 rfl ?_
      refine zx_getI (pc := 181) d_X11_tellRule_181 lk_CutStonesModel_251 (by decide) g30 ?_
      refine zv_dup2 (pc := 184) d_X11_tellRule_184 rfl rfl ?_
      obtain ⟨i38, hf⟩ := zw_inE hf
      refine zx_iald (pc := 185) d_X11_tellRule_185 g37 i38 ?_
      refine zv_iconst (pc := 186) d_X11_tellRule_186 zc_i_1 ?_
      refine zv_iadd (pc := 187) d_X11_tellRule_187 ?_
      obtain ⟨i39, hf⟩ := zw_inE hf
      obtain ⟨I40, eI40, hf⟩ := zw_letE hf
      refine zx_iast (pc := 188) (I2 := I40) d_X11_tellRule_188 g37 i39 eI40 ?_
      cases hf
      exact zx_vret (pc := 189) d_X11_tellRule_189 rfl hk
    · refine zv_if_eq (pc := 157) (tg := 176) d_X11_tellRule_157 (by decide) (fun q => absurd q c36) (fun _ => ?_)
      refine zv_aload_n (pc := 160) d_X11_tellRule_160 rfl ?_
      obtain ⟨g41, hf⟩ := zw_gcE hf (by decide)
      refine zx_getR (pc := 161) d_X11_tellRule_161 lk_CutStonesModel_76 (by decide) g30 g41 ?_
      refine zv_aload_n (pc := 164) d_X11_tellRule_164 rfl ?_
      refine zx_getI (pc := 165) d_X11_tellRule_165 lk_CutStonesModel_251 (by decide) g30 ?_
      refine zv_dup2 (pc := 168) d_X11_tellRule_168 rfl rfl ?_
      obtain ⟨i42, hf⟩ := zw_inE hf
      refine zx_iald (pc := 169) d_X11_tellRule_169 g41 i42 ?_
      refine zv_iconst (pc := 170) d_X11_tellRule_170 zc_i_1 ?_
      refine zv_iadd (pc := 171) d_X11_tellRule_171 ?_
      obtain ⟨i43, hf⟩ := zw_inE hf
      obtain ⟨I44, eI44, hf⟩ := zw_letE hf
      refine zx_iast (pc := 172) (I2 := I44) d_X11_tellRule_172 g41 i43 eI44 ?_
      refine zv_goto (pc := 173) (tg := 189) d_X11_tellRule_173 (by decide) ?_
      cases hf
      exact zx_vret (pc := 189) d_X11_tellRule_189 rfl hk
  · refine zv_if_le (pc := 152) (tg := 156) d_X11_tellRule_152 (by decide) (fun q => absurd q c35) (fun _ => ?_)
    cases hf
    exact zx_vret (pc := 155) d_X11_tellRule_155 rfl hk
def j_X11_tellRule_74 (v0 : Nat) (v1 : Int32) (v2 : Int32) (v3 : Int32) (I : zI) (R : zR) (J : zJ) : Option (zI × zJ) :=
  (zw_it (s_X11_tellRule_77 v0 v1 v2 R J) 1000000 (v3, 1, I)).bind fun q29 => (j_X11_tellRule_133 v0 v1 v2 q29 R J)
theorem j_X11_tellRule_74_ok (X : zw_X) (P : Option Value → aS → Prop) (v0 : Nat) (v1 : Int32) (v2 : Int32) (v3 : Int32) (I : zI) (R : zR) (J : zJ) (o : zI × zJ) (hf : j_X11_tellRule_74 v0 v1 v2 v3 I R J = some o) (hk : P none (o.1, R, o.2)) : zy_V X M_X11_tellRule 5 P 74 [.ref v0, .int v1, .int v2, .int v3, .null] [] (I, R, J) := by
  unfold j_X11_tellRule_74 at hf
  refine zv_iconst (pc := 74) d_X11_tellRule_74 zc_i_1 ?_
  refine zx_istore (pc := 75) (x2 := 1) (L2 := [.ref v0, .int v1, .int v2, .int v3, .int 1]) d_X11_tellRule_75 (by decide) rfl rfl ?_
  obtain ⟨q29, hq29, hf⟩ := zw_bdE hf
  refine zx_weak (L' := [.ref v0, .int v1, .int v2, .int v3, .int 1]) (zw_leS (zw_leS (zw_leS (zw_leS (zw_leS zw_leZ))))) (s_X11_tellRule_77_lp X P v0 v1 v2 R J _ _ _ hq29 ?_)
  show zy_V X M_X11_tellRule 5 P 133 [.ref v0, .int v1, .int v2, .null, .null] [] (q29, R, J)
  exact zx_weak (zw_leS (zw_leS (zw_leS (zw_leN (zw_leN zw_leZ))))) (j_X11_tellRule_133_ok X P v0 v1 v2 q29 R J _ hf hk)
def j_X11_tellRule_26 (v0 : Nat) (v1 : Int32) (v2 : Int32) (I : zI) (R : zR) (J : zJ) : Option (zI × zJ) :=
  zw_g (zw_gc v0 11) (zw_g (zw_gc (R v0 34) 13) (zw_g (zw_in v1 (zw_SH (R v0 34)).2) (zw_let (zw_u I (R v0 34) (Int32.toNatClampNeg v1) (I v0 44) : zI) fun I11 => (zw_g (zw_gc (R v0 35) 13) (zw_g (zw_in v1 (zw_SH (R v0 35)).2) (zw_let (zw_u I11 (R v0 35) (Int32.toNatClampNeg v1) (I11 v0 37) : zI) fun I14 => ((f_X11_is v0 26 I14 R).bind fun q15 => (if ¬ v2 = 0 then if q15 = 0 then j_X11_tellRule_74 v0 v1 v2 q15 I14 R J else (f_X11_goesOn v0 I14 R).bind fun q45 => (j_X11_tellRule_74 v0 v1 v2 q15 q45 R J) else (f_X11_must v0 26 I14 R).bind fun q46 => (j_X11_tellRule_74 v0 v1 v2 q15 q46 R J)))))))))
theorem j_X11_tellRule_26_ok (X : zw_X) (P : Option Value → aS → Prop) (v0 : Nat) (v1 : Int32) (v2 : Int32) (I : zI) (R : zR) (J : zJ) (o : zI × zJ) (hf : j_X11_tellRule_26 v0 v1 v2 I R J = some o) (hk : P none (o.1, R, o.2)) : zy_V X M_X11_tellRule 5 P 26 [.ref v0, .int v1, .int v2, .null, .null] [] (I, R, J) := by
  unfold j_X11_tellRule_26 at hf
  refine zv_aload_n (pc := 26) d_X11_tellRule_26 rfl ?_
  obtain ⟨g8, hf⟩ := zw_gcE hf (by decide)
  obtain ⟨g9, hf⟩ := zw_gcE hf (by decide)
  refine zx_getR (pc := 27) d_X11_tellRule_27 lk_CutStonesModel_82 (by decide) g8 g9 ?_
  refine zv_iload_n (pc := 30) d_X11_tellRule_30 rfl ?_
  refine zv_aload_n (pc := 31) d_X11_tellRule_31 rfl ?_
  refine zx_getI (pc := 32) d_X11_tellRule_32 lk_CutStonesModel_257 (by decide) g8 ?_
  obtain ⟨i10, hf⟩ := zw_inE hf
  obtain ⟨I11, eI11, hf⟩ := zw_letE hf
  refine zx_iast (pc := 35) (I2 := I11) d_X11_tellRule_35 g9 i10 eI11 ?_
  refine zv_aload_n (pc := 36) d_X11_tellRule_36 rfl ?_
  obtain ⟨g12, hf⟩ := zw_gcE hf (by decide)
  refine zx_getR (pc := 37) d_X11_tellRule_37 lk_CutStonesModel_85 (by decide) g8 g12 ?_
  refine zv_iload_n (pc := 40) d_X11_tellRule_40 rfl ?_
  refine zv_aload_n (pc := 41) d_X11_tellRule_41 rfl ?_
  refine zx_getI (pc := 42) d_X11_tellRule_42 lk_CutStonesModel_254 (by decide) g8 ?_
  obtain ⟨i13, hf⟩ := zw_inE hf
  obtain ⟨I14, eI14, hf⟩ := zw_letE hf
  refine zx_iast (pc := 45) (I2 := I14) d_X11_tellRule_45 g12 i13 eI14 ?_
  refine zv_aload_n (pc := 46) d_X11_tellRule_46 rfl ?_
  refine zv_bipush (pc := 47) d_X11_tellRule_47 zc_b_26 ?_
  obtain ⟨q15, hq15, hf⟩ := zw_bdE hf
  refine zx_callV (pc := 49) (As := [.int 26]) (o := v0) (st := []) (d2 := 0) (M2 := M_X11_is) (P2 := (fun r S => r = (some (.int q15)) ∧ S = (I14, R, J))) d_X11_tellRule_49 (zw_mG (List.mem_of_getElem? (i := 1442) (by decide +kernel)) rfl) ce_X11_is (zw_RvK g8 rfl rfl) (Nat.le_of_ble_eq_true rfl) rfl (Nat.le_of_ble_eq_true rfl) (by decide) (c_X11_is X v0 26 I14 R J _ hq15 ⟨rfl, rfl⟩) ?_
  rintro _ _ ⟨rfl, rfl⟩
  show zy_V X M_X11_tellRule 5 P (49 + 3) [.ref v0, .int v1, .int v2, .null, .null] [.int q15] (I14, R, J)
  refine zx_istore_n (pc := 52) (x2 := q15) (L2 := [.ref v0, .int v1, .int v2, .int q15, .null]) d_X11_tellRule_52 (by decide) rfl rfl ?_
  refine zv_iload_n (pc := 53) d_X11_tellRule_53 rfl ?_
  rcases zw_ifE hf with ⟨c16, hf⟩ | ⟨c16, hf⟩
  · refine zv_if_ne (pc := 54) (tg := 66) d_X11_tellRule_54 (by decide) (fun _ => ?_) (fun q => absurd q c16)
    refine zv_iload_n (pc := 66) d_X11_tellRule_66 rfl ?_
    rcases zw_ifE hf with ⟨c17, hf⟩ | ⟨c17, hf⟩
    · refine zv_if_eq (pc := 67) (tg := 74) d_X11_tellRule_67 (by decide) (fun _ => ?_) (fun q => absurd c17 q)
      exact zx_weak (zw_leS (zw_leS (zw_leS (zw_leS (zw_leN zw_leZ))))) (j_X11_tellRule_74_ok X P v0 v1 v2 q15 I14 R J _ hf hk)
    · refine zv_if_eq (pc := 67) (tg := 74) d_X11_tellRule_67 (by decide) (fun q => absurd q c17) (fun _ => ?_)
      refine zv_aload_n (pc := 70) d_X11_tellRule_70 rfl ?_
      obtain ⟨q45, hq45, hf⟩ := zw_bdE hf
      refine zx_callV (pc := 71) (As := []) (o := v0) (st := []) (d2 := 1) (M2 := M_X11_goesOn) (P2 := (fun r S => r = none ∧ S = (q45, R, J))) d_X11_tellRule_71 (zw_mG (List.mem_of_getElem? (i := 1458) (by decide +kernel)) rfl) ce_X11_goesOn (zw_RvK g8 rfl rfl) (Nat.le_of_ble_eq_true rfl) rfl (Nat.le_of_ble_eq_true rfl) (by decide) (c_X11_goesOn X v0 I14 R J _ hq45 ⟨rfl, rfl⟩) ?_
      rintro _ _ ⟨rfl, rfl⟩
      show zy_V X M_X11_tellRule 5 P (71 + 3) [.ref v0, .int v1, .int v2, .int q15, .null] [] (q45, R, J)
      exact zx_weak (zw_leS (zw_leS (zw_leS (zw_leS (zw_leN zw_leZ))))) (j_X11_tellRule_74_ok X P v0 v1 v2 q15 q45 R J _ hf hk)
  · refine zv_if_ne (pc := 54) (tg := 66) d_X11_tellRule_54 (by decide) (fun q => absurd q c16) (fun _ => ?_)
    refine zv_aload_n (pc := 57) d_X11_tellRule_57 rfl ?_
    refine zv_bipush (pc := 58) d_X11_tellRule_58 zc_b_26 ?_
    obtain ⟨q46, hq46, hf⟩ := zw_bdE hf
    refine zx_callV (pc := 60) (As := [.int 26]) (o := v0) (st := []) (d2 := 2) (M2 := M_X11_must) (P2 := (fun r S => r = none ∧ S = (q46, R, J))) d_X11_tellRule_60 (zw_mG (List.mem_of_getElem? (i := 1466) (by decide +kernel)) rfl) ce_X11_must (zw_RvK g8 rfl rfl) (Nat.le_of_ble_eq_true rfl) rfl (Nat.le_of_ble_eq_true rfl) (by decide) (c_X11_must X v0 26 I14 R J _ hq46 ⟨rfl, rfl⟩) ?_
    rintro _ _ ⟨rfl, rfl⟩
    show zy_V X M_X11_tellRule 5 P (60 + 3) [.ref v0, .int v1, .int v2, .int q15, .null] [] (q46, R, J)
    refine zv_goto (pc := 63) (tg := 74) d_X11_tellRule_63 (by decide) ?_
    exact zx_weak (zw_leS (zw_leS (zw_leS (zw_leS (zw_leN zw_leZ))))) (j_X11_tellRule_74_ok X P v0 v1 v2 q15 q46 R J _ hf hk)
def f_X11_tellRule (v0 : Nat) (v1 : Int32) (v2 : Int32) (I : zI) (R : zR) (J : zJ) : Option (zI × zJ) :=
  zw_g (zw_gc v0 11) ((f_X11_goesOn v0 I R).bind fun q2 => ((f_X11_named v0 q2 R J).bind fun q3 => (zw_g (zw_gc (R v0 33) 13) (zw_g (zw_in v1 (zw_SH (R v0 33)).2) (zw_let (zw_u q3.1 (R v0 33) (Int32.toNatClampNeg v1) (q3.1 v0 44) : zI) fun I6 => (if v2 = 0 then j_X11_tellRule_26 v0 v1 v2 I6 R q3.2 else (f_X11_expression v0 I6 R).bind fun q47 => (j_X11_tellRule_26 v0 v1 v2 q47 R q3.2)))))))
theorem c_X11_tellRule (X : zw_X) (v0 : Nat) (v1 : Int32) (v2 : Int32) (I : zI) (R : zR) (J : zJ) {P : Option Value → aS → Prop} (o : zI × zJ) (hf : f_X11_tellRule v0 v1 v2 I R J = some o) (hk : P none (o.1, R, o.2)) : zw_C X M_X11_tellRule 5 0 0 199 [.ref v0, .int v1, .int v2] (I, R, J) P := by
  show zy_V X M_X11_tellRule 5 P 0 [.ref v0, .int v1, .int v2, .null, .null] [] (I, R, J)
  unfold f_X11_tellRule at hf
  refine zv_aload_n (pc := 0) d_X11_tellRule_0 rfl ?_
  obtain ⟨g1, hf⟩ := zw_gcE hf (by decide)
  obtain ⟨q2, hq2, hf⟩ := zw_bdE hf
  refine zx_callV (pc := 1) (As := []) (o := v0) (st := []) (d2 := 1) (M2 := M_X11_goesOn) (P2 := (fun r S => r = none ∧ S = (q2, R, J))) d_X11_tellRule_1 (zw_mG (List.mem_of_getElem? (i := 1458) (by decide +kernel)) rfl) ce_X11_goesOn (zw_RvK g1 rfl rfl) (Nat.le_of_ble_eq_true rfl) rfl (Nat.le_of_ble_eq_true rfl) (by decide) (c_X11_goesOn X v0 I R J _ hq2 ⟨rfl, rfl⟩) ?_
  rintro _ _ ⟨rfl, rfl⟩
  show zy_V X M_X11_tellRule 5 P (1 + 3) [.ref v0, .int v1, .int v2, .null, .null] [] (q2, R, J)
  refine zv_aload_n (pc := 4) d_X11_tellRule_4 rfl ?_
  obtain ⟨q3, hq3, hf⟩ := zw_bdE hf
  refine zx_callV (pc := 5) (As := []) (o := v0) (st := []) (d2 := 3) (M2 := M_X11_named) (P2 := (fun r S => r = none ∧ S = (q3.1, R, q3.2))) d_X11_tellRule_5 (zw_mG (List.mem_of_getElem? (i := 1462) (by decide +kernel)) rfl) ce_X11_named (zw_RvK g1 rfl rfl) (Nat.le_of_ble_eq_true rfl) rfl (Nat.le_of_ble_eq_true rfl) (by decide) (c_X11_named X v0 q2 R J _ hq3 ⟨rfl, rfl⟩) ?_
  rintro _ _ ⟨rfl, rfl⟩
  show zy_V X M_X11_tellRule 5 P (5 + 3) [.ref v0, .int v1, .int v2, .null, .null] [] (q3.1, R, q3.2)
  refine zv_aload_n (pc := 8) d_X11_tellRule_8 rfl ?_
  obtain ⟨g4, hf⟩ := zw_gcE hf (by decide)
  refine zx_getR (pc := 9) d_X11_tellRule_9 lk_CutStonesModel_79 (by decide) g1 g4 ?_
  refine zv_iload_n (pc := 12) d_X11_tellRule_12 rfl ?_
  refine zv_aload_n (pc := 13) d_X11_tellRule_13 rfl ?_
  refine zx_getI (pc := 14) d_X11_tellRule_14 lk_CutStonesModel_257 (by decide) g1 ?_
  obtain ⟨i5, hf⟩ := zw_inE hf
  obtain ⟨I6, eI6, hf⟩ := zw_letE hf
  refine zx_iast (pc := 17) (I2 := I6) d_X11_tellRule_17 g4 i5 eI6 ?_
  refine zv_iload_n (pc := 18) d_X11_tellRule_18 rfl ?_
  rcases zw_ifE hf with ⟨c7, hf⟩ | ⟨c7, hf⟩
  · refine zv_if_eq (pc := 19) (tg := 26) d_X11_tellRule_19 (by decide) (fun _ => ?_) (fun q => absurd c7 q)
    exact zx_weak (zw_leS (zw_leS (zw_leS (zw_leN (zw_leN zw_leZ))))) (j_X11_tellRule_26_ok X P v0 v1 v2 I6 R q3.2 _ hf hk)
  · refine zv_if_eq (pc := 19) (tg := 26) d_X11_tellRule_19 (by decide) (fun q => absurd q c7) (fun _ => ?_)
    refine zv_aload_n (pc := 22) d_X11_tellRule_22 rfl ?_
    obtain ⟨q47, hq47, hf⟩ := zw_bdE hf
    refine zx_callV (pc := 23) (As := []) (o := v0) (st := []) (d2 := 3) (M2 := M_X11_expression) (P2 := (fun r S => r = none ∧ S = (q47, R, q3.2))) d_X11_tellRule_23 (zw_mG (List.mem_of_getElem? (i := 1486) (by decide +kernel)) rfl) ce_X11_expression (zw_RvK g1 rfl rfl) (Nat.le_of_ble_eq_true rfl) rfl (Nat.le_of_ble_eq_true rfl) (by decide) (c_X11_expression X v0 I6 R q3.2 _ hq47 ⟨rfl, rfl⟩) ?_
    rintro _ _ ⟨rfl, rfl⟩
    show zy_V X M_X11_tellRule 5 P (23 + 3) [.ref v0, .int v1, .int v2, .null, .null] [] (q47, R, q3.2)
    exact zx_weak (zw_leS (zw_leS (zw_leS (zw_leN (zw_leN zw_leZ))))) (j_X11_tellRule_26_ok X P v0 v1 v2 q47 R q3.2 _ hf hk)
