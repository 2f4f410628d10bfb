abbrev M_X11_word : zw_M := (⟨"CutStonesModel", "word", "(IIIIIII)J"⟩, prog_13_method_10_code, 7, (Option.some Jvm.ClassFile.FieldType.long))
theorem d_X11_word_0 : decode M_X11_word.2.1 0 = .ok (.lconst 0, 1) := by decide +kernel
theorem d_X11_word_1 : decode M_X11_word.2.1 1 = .ok (.iload_n 0, 1) := by decide +kernel
theorem d_X11_word_2 : decode M_X11_word.2.1 2 = .ok (.invokestatic 189, 3) := by decide +kernel
theorem d_X11_word_5 : decode M_X11_word.2.1 5 = .ok (.iload_n 1, 1) := by decide +kernel
theorem d_X11_word_6 : decode M_X11_word.2.1 6 = .ok (.invokestatic 189, 3) := by decide +kernel
theorem d_X11_word_9 : decode M_X11_word.2.1 9 = .ok (.iload_n 2, 1) := by decide +kernel
theorem d_X11_word_10 : decode M_X11_word.2.1 10 = .ok (.invokestatic 189, 3) := by decide +kernel
theorem d_X11_word_13 : decode M_X11_word.2.1 13 = .ok (.iload_n 3, 1) := by decide +kernel
theorem d_X11_word_14 : decode M_X11_word.2.1 14 = .ok (.invokestatic 189, 3) := by decide +kernel
theorem d_X11_word_17 : decode M_X11_word.2.1 17 = .ok (.iload 4, 2) := by decide +kernel
theorem d_X11_word_19 : decode M_X11_word.2.1 19 = .ok (.invokestatic 189, 3) := by decide +kernel
theorem d_X11_word_22 : decode M_X11_word.2.1 22 = .ok (.iload 5, 2) := by decide +kernel
theorem d_X11_word_24 : decode M_X11_word.2.1 24 = .ok (.invokestatic 189, 3) := by decide +kernel
theorem d_X11_word_27 : decode M_X11_word.2.1 27 = .ok (.iload 6, 2) := by decide +kernel
theorem d_X11_word_29 : decode M_X11_word.2.1 29 = .ok (.invokestatic 189, 3) := by decide +kernel
theorem d_X11_word_32 : decode M_X11_word.2.1 32 = .ok (.lreturn, 1) := by decide +kernel
theorem ce_X11_word : zw_CeS M_X11_word 7 := ⟨⟨⟨by decide +kernel, by decide +kernel, by decide +kernel⟩, (zw_mG (List.mem_of_getElem? (i := 1155) (by decide +kernel)) rfl), (zw_mG (List.mem_of_getElem? (i := 108) (by decide +kernel)) rfl), by decide, by decide +kernel⟩, (zw_mG (List.mem_of_getElem? (i := 1154) (by decide +kernel)) rfl)⟩
def f_X11_word (v0 : Int32) (v1 : Int32) (v2 : Int32) (v3 : Int32) (v4 : Int32) (v5 : Int32) (v6 : Int32)  : Option (Int64) :=
  (f_X11_more 0 v0).bind fun q1 => ((f_X11_more q1 v1).bind fun q2 => ((f_X11_more q2 v2).bind fun q3 => ((f_X11_more q3 v3).bind fun q4 => ((f_X11_more q4 v4).bind fun q5 => ((f_X11_more q5 v5).bind fun q6 => ((f_X11_more q6 v6).bind fun q7 => (some q7)))))))
theorem c_X11_word (X : zw_X) (v0 : Int32) (v1 : Int32) (v2 : Int32) (v3 : Int32) (v4 : Int32) (v5 : Int32) (v6 : Int32) (I : zI) (R : zR) (J : zJ) {P : Option Value → aS → Prop} (o : Int64) (hf : f_X11_word v0 v1 v2 v3 v4 v5 v6  = some o) (hk : P (some (.long o)) (I, R, J)) : zw_C X M_X11_word 1 0 0 199 [.int v0, .int v1, .int v2, .int v3, .int v4, .int v5, .int v6] (I, R, J) P := by
  show zy_V X M_X11_word 1 P 0 [.int v0, .int v1, .int v2, .int v3, .int v4, .int v5, .int v6] [] (I, R, J)
  unfold f_X11_word at hf
  refine zv_lconst (pc := 0) d_X11_word_0 zc_l_0 ?_
  refine zv_iload_n (pc := 1) d_X11_word_1 rfl ?_
  obtain ⟨q1, hq1, hf⟩ := zw_bdE hf
  refine zx_callS (pc := 2) (As := [.long 0, .int v0]) (st := []) (d2 := 0) (M2 := M_X11_more) (P2 := (fun r S => r = (some (.long q1)) ∧ S = (I, R, J))) d_X11_word_2 (zw_mG (List.mem_of_getElem? (i := 1156) (by decide +kernel)) rfl) ce_X11_more (Nat.le_of_ble_eq_true rfl) rfl (Nat.le_of_ble_eq_true rfl) (by decide) (c_X11_more X 0 v0 I R J _ hq1 ⟨rfl, rfl⟩) ?_
  rintro _ _ ⟨rfl, rfl⟩
  show zy_V X M_X11_word 1 P (2 + 3) [.int v0, .int v1, .int v2, .int v3, .int v4, .int v5, .int v6] [.long q1] (I, R, J)
  refine zv_iload_n (pc := 5) d_X11_word_5 rfl ?_
  obtain ⟨q2, hq2, hf⟩ := zw_bdE hf
  refine zx_callS (pc := 6) (As := [.long q1, .int v1]) (st := []) (d2 := 0) (M2 := M_X11_more) (P2 := (fun r S => r = (some (.long q2)) ∧ S = (I, R, J))) d_X11_word_6 (zw_mG (List.mem_of_getElem? (i := 1156) (by decide +kernel)) rfl) ce_X11_more (Nat.le_of_ble_eq_true rfl) rfl (Nat.le_of_ble_eq_true rfl) (by decide) (c_X11_more X q1 v1 I R J _ hq2 ⟨rfl, rfl⟩) ?_
  rintro _ _ ⟨rfl, rfl⟩
  show zy_V X M_X11_word 1 P (6 + 3) [.int v0, .int v1, .int v2, .int v3, .int v4, .int v5, .int v6] [.long q2] (I, R, J)
  refine zv_iload_n (pc := 9) d_X11_word_9 rfl ?_
  obtain ⟨q3, hq3, hf⟩ := zw_bdE hf
  refine zx_callS (pc := 10) (As := [.long q2, .int v2]) (st := []) (d2 := 0) (M2 := M_X11_more) (P2 := (fun r S => r = (some (.long q3)) ∧ S = (I, R, J))) d_X11_word_10 (zw_mG (List.mem_of_getElem? (i := 1156) (by decide +kernel)) rfl) ce_X11_more (Nat.le_of_ble_eq_true rfl) rfl (Nat.le_of_ble_eq_true rfl) (by decide) (c_X11_more X q2 v2 I R J _ hq3 ⟨rfl, rfl⟩) ?_
  rintro _ _ ⟨rfl, rfl⟩
  show zy_V X M_X11_word 1 P (10 + 3) [.int v0, .int v1, .int v2, .int v3, .int v4, .int v5, .int v6] [.long q3] (I, R, J)
  refine zv_iload_n (pc := 13) d_X11_word_13 rfl ?_
  obtain ⟨q4, hq4, hf⟩ := zw_bdE hf
  refine zx_callS (pc := 14) (As := [.long q3, .int v3]) (st := []) (d2 := 0) (M2 := M_X11_more) (P2 := (fun r S => r = (some (.long q4)) ∧ S = (I, R, J))) d_X11_word_14 (zw_mG (List.mem_of_getElem? (i := 1156) (by decide +kernel)) rfl) ce_X11_more (Nat.le_of_ble_eq_true rfl) rfl (Nat.le_of_ble_eq_true rfl) (by decide) (c_X11_more X q3 v3 I R J _ hq4 ⟨rfl, rfl⟩) ?_
  rintro _ _ ⟨rfl, rfl⟩
  show zy_V X M_X11_word 1 P (14 + 3) [.int v0, .int v1, .int v2, .int v3, .int v4, .int v5, .int v6] [.long q4] (I, R, J)
  refine zv_iload (pc := 17) d_X11_word_17 rfl ?_
  obtain ⟨q5, hq5, hf⟩ := zw_bdE hf
  refine zx_callS (pc := 19) (As := [.long q4, .int v4]) (st := []) (d2 := 0) (M2 := M_X11_more) (P2 := (fun r S => r = (some (.long q5)) ∧ S = (I, R, J))) d_X11_word_19 (zw_mG (List.mem_of_getElem? (i := 1156) (by decide +kernel)) rfl) ce_X11_more (Nat.le_of_ble_eq_true rfl) rfl (Nat.le_of_ble_eq_true rfl) (by decide) (c_X11_more X q4 v4 I R J _ hq5 ⟨rfl, rfl⟩) ?_
  rintro _ _ ⟨rfl, rfl⟩
  show zy_V X M_X11_word 1 P (19 + 3) [.int v0, .int v1, .int v2, .int v3, .int v4, .int v5, .int v6] [.long q5] (I, R, J)
  refine zv_iload (pc := 22) d_X11_word_22 rfl ?_
  obtain ⟨q6, hq6, hf⟩ := zw_bdE hf
  refine zx_callS (pc := 24) (As := [.long q5, .int v5]) (st := []) (d2 := 0) (M2 := M_X11_more) (P2 := (fun r S => r = (some (.long q6)) ∧ S = (I, R, J))) d_X11_word_24 (zw_mG (List.mem_of_getElem? (i := 1156) (by decide +kernel)) rfl) ce_X11_more (Nat.le_of_ble_eq_true rfl) rfl (Nat.le_of_ble_eq_true rfl) (by decide) (c_X11_more X q5 v5 I R J _ hq6 ⟨rfl, rfl⟩) ?_
  rintro _ _ ⟨rfl, rfl⟩
  show zy_V X M_X11_word 1 P (24 + 3) [.int v0, .int v1, .int v2, .int v3, .int v4, .int v5, .int v6] [.long q6] (I, R, J)
  refine zv_iload (pc := 27) d_X11_word_27 rfl ?_
  obtain ⟨q7, hq7, hf⟩ := zw_bdE hf
  refine zx_callS (pc := 29) (As := [.long q6, .int v6]) (st := []) (d2 := 0) (M2 := M_X11_more) (P2 := (fun r S => r = (some (.long q7)) ∧ S = (I, R, J))) d_X11_word_29 (zw_mG (List.mem_of_getElem? (i := 1156) (by decide +kernel)) rfl) ce_X11_more (Nat.le_of_ble_eq_true rfl) rfl (Nat.le_of_ble_eq_true rfl) (by decide) (c_X11_more X q6 v6 I R J _ hq7 ⟨rfl, rfl⟩) ?_
  rintro _ _ ⟨rfl, rfl⟩
  show zy_V X M_X11_word 1 P (29 + 3) [.int v0, .int v1, .int v2, .int v3, .int v4, .int v5, .int v6] [.long q7] (I, R, J)
  cases hf
  exact zx_lret (pc := 32) d_X11_word_32 rfl hk
abbrev M_X1_addCut : zw_M := (⟨"CutStones$House", "addCut", "()LCutStones$Drawing;"⟩, prog_3_method_4_code, 2, (Option.some (Jvm.ClassFile.FieldType.object "CutStones$Drawing")))
theorem d_X1_addCut_0 : decode M_X1_addCut.2.1 0 = .ok (.aload_n 0, 1) := by decide +kernel
theorem d_X1_addCut_1 : decode M_X1_addCut.2.1 1 = .ok (.getfield 23, 3) := by decide +kernel
theorem d_X1_addCut_4 : decode M_X1_addCut.2.1 4 = .ok (.aload_n 0, 1) := by decide +kernel
theorem d_X1_addCut_5 : decode M_X1_addCut.2.1 5 = .ok (.getfield 27, 3) := by decide +kernel
theorem d_X1_addCut_8 : decode M_X1_addCut.2.1 8 = .ok (.aaload, 1) := by decide +kernel
theorem d_X1_addCut_9 : decode M_X1_addCut.2.1 9 = .ok (.astore_n 1, 1) := by decide +kernel
theorem d_X1_addCut_10 : decode M_X1_addCut.2.1 10 = .ok (.aload_n 0, 1) := by decide +kernel
theorem d_X1_addCut_11 : decode M_X1_addCut.2.1 11 = .ok (.dup, 1) := by decide +kernel
theorem d_X1_addCut_12 : decode M_X1_addCut.2.1 12 = .ok (.getfield 27, 3) := by decide +kernel
theorem d_X1_addCut_15 : decode M_X1_addCut.2.1 15 = .ok (.iconst 1, 1) := by decide +kernel
theorem d_X1_addCut_16 : decode M_X1_addCut.2.1 16 = .ok (.iadd, 1) := by decide +kernel
theorem d_X1_addCut_17 : decode M_X1_addCut.2.1 17 = .ok (.putfield 27, 3) := by decide +kernel
theorem d_X1_addCut_20 : decode M_X1_addCut.2.1 20 = .ok (.aload_n 1, 1) := by decide +kernel
theorem d_X1_addCut_21 : decode M_X1_addCut.2.1 21 = .ok (.invokevirtual 74, 3) := by decide +kernel
theorem d_X1_addCut_24 : decode M_X1_addCut.2.1 24 = .ok (.aload_n 1, 1) := by decide +kernel
theorem d_X1_addCut_25 : decode M_X1_addCut.2.1 25 = .ok (.areturn, 1) := by decide +kernel
theorem ce_X1_addCut : zw_CeV M_X1_addCut 0 := ⟨⟨⟨by decide +kernel, by decide +kernel, by decide +kernel⟩, (zw_mG (List.mem_of_getElem? (i := 714) (by decide +kernel)) rfl), (zw_mG (List.mem_of_getElem? (i := 99) (by decide +kernel)) rfl), by decide, by decide +kernel⟩, (zw_mG (List.mem_of_getElem? (i := 712) (by decide +kernel)) rfl), (zw_mG (List.mem_of_getElem? (i := 713) (by decide +kernel)) rfl)⟩
def f_X1_addCut (v0 : Nat) (I : zI) (R : zR) : Option (Nat × zI) :=
  zw_g (zw_gc v0 1) (zw_g (zw_gc (R v0 2) 16) (zw_g (zw_in (I v0 3) (zw_SH (R v0 2)).2) (zw_g (zw_gc (R (R v0 2) (Int32.toNatClampNeg (I v0 3))) 0) (zw_let (zw_u I v0 3 ((I v0 3) + 1) : zI) fun I5 => ((f_X0_empty (R (R v0 2) (Int32.toNatClampNeg (I v0 3))) I5).bind fun q6 => (some ((R (R v0 2) (Int32.toNatClampNeg (I v0 3))), q6)))))))
theorem c_X1_addCut (X : zw_X) (v0 : Nat) (I : zI) (R : zR) (J : zJ) {P : Option Value → aS → Prop} (o : Nat × zI) (hf : f_X1_addCut v0 I R = some o) (hk : P (some (.ref o.1)) (o.2, R, J)) : zw_C X M_X1_addCut 1 0 0 199 [.ref v0] (I, R, J) P := by
  show zy_V X M_X1_addCut 1 P 0 [.ref v0, .null] [] (I, R, J)
  unfold f_X1_addCut at hf
  refine zv_aload_n (pc := 0) d_X1_addCut_0 rfl ?_
  obtain ⟨g1, hf⟩ := zw_gcE hf (by decide)
  obtain ⟨g2, hf⟩ := zw_gcE hf (by decide)
  refine zx_getR (pc := 1) d_X1_addCut_1 lk_CutStones_House_23 (by decide) g1 g2 ?_
  refine zv_aload_n (pc := 4) d_X1_addCut_4 rfl ?_
  refine zx_getI (pc := 5) d_X1_addCut_5 lk_CutStones_House_27 (by decide) g1 ?_
  obtain ⟨i3, hf⟩ := zw_inE hf
  obtain ⟨g4, hf⟩ := zw_gcE hf (by decide)
  refine zx_aald (pc := 8) d_X1_addCut_8 g2 (by decide) i3 g4 ?_
  refine zx_astore_n (pc := 9) (L2 := [.ref v0, .ref (R (R v0 2) (Int32.toNatClampNeg (I v0 3)))]) d_X1_addCut_9 (by decide) rfl ?_
  refine zv_aload_n (pc := 10) d_X1_addCut_10 rfl ?_
  refine zv_dup (pc := 11) d_X1_addCut_11 rfl ?_
  refine zx_getI (pc := 12) d_X1_addCut_12 lk_CutStones_House_27 (by decide) g1 ?_
  refine zv_iconst (pc := 15) d_X1_addCut_15 zc_i_1 ?_
  refine zv_iadd (pc := 16) d_X1_addCut_16 ?_
  obtain ⟨I5, eI5, hf⟩ := zw_letE hf
  refine zx_putI (pc := 17) (I2 := I5) d_X1_addCut_17 lk_CutStones_House_27 rfl g1 eI5 ?_
  refine zv_aload_n (pc := 20) d_X1_addCut_20 rfl ?_
  obtain ⟨q6, hq6, hf⟩ := zw_bdE hf
  refine zx_callV (pc := 21) (As := []) (o := (R (R v0 2) (Int32.toNatClampNeg (I v0 3)))) (st := []) (d2 := 0) (M2 := M_X0_empty) (P2 := (fun r S => r = none ∧ S = (q6, R, J))) d_X1_addCut_21 (zw_mG (List.mem_of_getElem? (i := 715) (by decide +kernel)) rfl) ce_X0_empty (zw_RvK g4 rfl rfl) (Nat.le_of_ble_eq_true rfl) rfl (Nat.le_of_ble_eq_true rfl) (by decide) (c_X0_empty X (R (R v0 2) (Int32.toNatClampNeg (I v0 3))) I5 R J _ hq6 ⟨rfl, rfl⟩) ?_
  rintro _ _ ⟨rfl, rfl⟩
  show zy_V X M_X1_addCut 1 P (21 + 3) [.ref v0, .ref (R (R v0 2) (Int32.toNatClampNeg (I v0 3)))] [] (q6, R, J)
  refine zv_aload_n (pc := 24) d_X1_addCut_24 rfl ?_
  cases hf
  exact zx_aret (pc := 25) d_X1_addCut_25 rfl hk
abbrev M_X1_addRough : zw_M := (⟨"CutStones$House", "addRough", "()LCutStones$Drawing;"⟩, prog_3_method_5_code, 2, (Option.some (Jvm.ClassFile.FieldType.object "CutStones$Drawing")))
theorem d_X1_addRough_0 : decode M_X1_addRough.2.1 0 = .ok (.aload_n 0, 1) := by decide +kernel
theorem d_X1_addRough_1 : decode M_X1_addRough.2.1 1 = .ok (.getfield 30, 3) := by decide +kernel
theorem d_X1_addRough_4 : decode M_X1_addRough.2.1 4 = .ok (.aload_n 0, 1) := by decide +kernel
theorem d_X1_addRough_5 : decode M_X1_addRough.2.1 5 = .ok (.getfield 33, 3) := by decide +kernel
theorem d_X1_addRough_8 : decode M_X1_addRough.2.1 8 = .ok (.aaload, 1) := by decide +kernel
theorem d_X1_addRough_9 : decode M_X1_addRough.2.1 9 = .ok (.astore_n 1, 1) := by decide +kernel
theorem d_X1_addRough_10 : decode M_X1_addRough.2.1 10 = .ok (.aload_n 0, 1) := by decide +kernel
theorem d_X1_addRough_11 : decode M_X1_addRough.2.1 11 = .ok (.dup, 1) := by decide +kernel
theorem d_X1_addRough_12 : decode M_X1_addRough.2.1 12 = .ok (.getfield 33, 3) := by decide +kernel
theorem d_X1_addRough_15 : decode M_X1_addRough.2.1 15 = .ok (.iconst 1, 1) := by decide +kernel
theorem d_X1_addRough_16 : decode M_X1_addRough.2.1 16 = .ok (.iadd, 1) := by decide +kernel
theorem d_X1_addRough_17 : decode M_X1_addRough.2.1 17 = .ok (.putfield 33, 3) := by decide +kernel
theorem d_X1_addRough_20 : decode M_X1_addRough.2.1 20 = .ok (.aload_n 1, 1) := by decide +kernel
theorem d_X1_addRough_21 : decode M_X1_addRough.2.1 21 = .ok (.invokevirtual 74, 3) := by decide +kernel
theorem d_X1_addRough_24 : decode M_X1_addRough.2.1 24 = .ok (.aload_n 1, 1) := by decide +kernel
theorem d_X1_addRough_25 : decode M_X1_addRough.2.1 25 = .ok (.areturn, 1) := by decide +kernel
theorem ce_X1_addRough : zw_CeV M_X1_addRough 0 := ⟨⟨⟨by decide +kernel, by decide +kernel, by decide +kernel⟩, (zw_mG (List.mem_of_getElem? (i := 768) (by decide +kernel)) rfl), (zw_mG (List.mem_of_getElem? (i := 99) (by decide +kernel)) rfl), by decide, by decide +kernel⟩, (zw_mG (List.mem_of_getElem? (i := 766) (by decide +kernel)) rfl), (zw_mG (List.mem_of_getElem? (i := 767) (by decide +kernel)) rfl)⟩
def f_X1_addRough (v0 : Nat) (I : zI) (R : zR) : Option (Nat × zI) :=
  zw_g (zw_gc v0 1) (zw_g (zw_gc (R v0 4) 16) (zw_g (zw_in (I v0 5) (zw_SH (R v0 4)).2) (zw_g (zw_gc (R (R v0 4) (Int32.toNatClampNeg (I v0 5))) 0) (zw_let (zw_u I v0 5 ((I v0 5) + 1) : zI) fun I5 => ((f_X0_empty (R (R v0 4) (Int32.toNatClampNeg (I v0 5))) I5).bind fun q6 => (some ((R (R v0 4) (Int32.toNatClampNeg (I v0 5))), q6)))))))
theorem c_X1_addRough (X : zw_X) (v0 : Nat) (I : zI) (R : zR) (J : zJ) {P : Option Value → aS → Prop} (o : Nat × zI) (hf : f_X1_addRough v0 I R = some o) (hk : P (some (.ref o.1)) (o.2, R, J)) : zw_C X M_X1_addRough 1 0 0 199 [.ref v0] (I, R, J) P := by
  show zy_V X M_X1_addRough 1 P 0 [.ref v0, .null] [] (I, R, J)
  unfold f_X1_addRough at hf
  refine zv_aload_n (pc := 0) d_X1_addRough_0 rfl ?_
  obtain ⟨g1, hf⟩ := zw_gcE hf (by decide)
  obtain ⟨g2, hf⟩ := zw_gcE hf (by decide)
  refine zx_getR (pc := 1) d_X1_addRough_1 lk_CutStones_House_30 (by decide) g1 g2 ?_
  refine zv_aload_n (pc := 4) d_X1_addRough_4 rfl ?_
  refine zx_getI (pc := 5) d_X1_addRough_5 lk_CutStones_House_33 (by decide) g1 ?_
  obtain ⟨i3, hf⟩ := zw_inE hf
  obtain ⟨g4, hf⟩ := zw_gcE hf (by decide)
  refine zx_aald (pc := 8) d_X1_addRough_8 g2 (by decide) i3 g4 ?_
  refine zx_astore_n (pc := 9) (L2 := [.ref v0, .ref (R (R v0 4) (Int32.toNatClampNeg (I v0 5)))]) d_X1_addRough_9 (by decide) rfl ?_
  refine zv_aload_n (pc := 10) d_X1_addRough_10 rfl ?_
  refine zv_dup (pc := 11) d_X1_addRough_11 rfl ?_
  refine zx_getI (pc := 12) d_X1_addRough_12 lk_CutStones_House_33 (by decide) g1 ?_
  refine zv_iconst (pc := 15) d_X1_addRough_15 zc_i_1 ?_
  refine zv_iadd (pc := 16) d_X1_addRough_16 ?_
  obtain ⟨I5, eI5, hf⟩ := zw_letE hf
  refine zx_putI (pc := 17) (I2 := I5) d_X1_addRough_17 lk_CutStones_House_33 rfl g1 eI5 ?_
  refine zv_aload_n (pc := 20) d_X1_addRough_20 rfl ?_
  obtain ⟨q6, hq6, hf⟩ := zw_bdE hf
  refine zx_callV (pc := 21) (As := []) (o := (R (R v0 4) (Int32.toNatClampNeg (I v0 5)))) (st := []) (d2 := 0) (M2 := M_X0_empty) (P2 := (fun r S => r = none ∧ S = (q6, R, J))) d_X1_addRough_21 (zw_mG (List.mem_of_getElem? (i := 715) (by decide +kernel)) rfl) ce_X0_empty (zw_RvK g4 rfl rfl) (Nat.le_of_ble_eq_true rfl) rfl (Nat.le_of_ble_eq_true rfl) (by decide) (c_X0_empty X (R (R v0 4) (Int32.toNatClampNeg (I v0 5))) I5 R J _ hq6 ⟨rfl, rfl⟩) ?_
  rintro _ _ ⟨rfl, rfl⟩
  show zy_V X M_X1_addRough 1 P (21 + 3) [.ref v0, .ref (R (R v0 4) (Int32.toNatClampNeg (I v0 5)))] [] (q6, R, J)
  refine zv_aload_n (pc := 24) d_X1_addRough_24 rfl ?_
  cases hf
  exact zx_aret (pc := 25) d_X1_addRough_25 rfl hk
abbrev M_X2_begin : zw_M := (⟨"CutStones$Light", "begin", "(LCutStones$Stuff;I)V"⟩, prog_4_method_2_code, 3, (Option.none : Option Jvm.ClassFile.FieldType))
theorem d_X2_begin_0 : decode M_X2_begin.2.1 0 = .ok (.aload_n 0, 1) := by decide +kernel
theorem d_X2_begin_1 : decode M_X2_begin.2.1 1 = .ok (.getfield 19, 3) := by decide +kernel
theorem d_X2_begin_4 : decode M_X2_begin.2.1 4 = .ok (.iconst 0, 1) := by decide +kernel
theorem d_X2_begin_5 : decode M_X2_begin.2.1 5 = .ok (.invokestatic 49, 3) := by decide +kernel
theorem d_X2_begin_8 : decode M_X2_begin.2.1 8 = .ok (.aload_n 0, 1) := by decide +kernel
theorem d_X2_begin_9 : decode M_X2_begin.2.1 9 = .ok (.getfield 22, 3) := by decide +kernel
theorem d_X2_begin_12 : decode M_X2_begin.2.1 12 = .ok (.iconst 0, 1) := by decide +kernel
theorem d_X2_begin_13 : decode M_X2_begin.2.1 13 = .ok (.invokestatic 49, 3) := by decide +kernel
theorem d_X2_begin_16 : decode M_X2_begin.2.1 16 = .ok (.aload_n 0, 1) := by decide +kernel
theorem d_X2_begin_17 : decode M_X2_begin.2.1 17 = .ok (.iconst 0, 1) := by decide +kernel
theorem d_X2_begin_18 : decode M_X2_begin.2.1 18 = .ok (.putfield 15, 3) := by decide +kernel
theorem d_X2_begin_21 : decode M_X2_begin.2.1 21 = .ok (.aload_n 0, 1) := by decide +kernel
theorem d_X2_begin_22 : decode M_X2_begin.2.1 22 = .ok (.iconst 0, 1) := by decide +kernel
theorem d_X2_begin_23 : decode M_X2_begin.2.1 23 = .ok (.putfield 25, 3) := by decide +kernel
theorem d_X2_begin_26 : decode M_X2_begin.2.1 26 = .ok (.aload_n 0, 1) := by decide +kernel
theorem d_X2_begin_27 : decode M_X2_begin.2.1 27 = .ok (.aload_n 1, 1) := by decide +kernel
theorem d_X2_begin_28 : decode M_X2_begin.2.1 28 = .ok (.getfield 55, 3) := by decide +kernel
theorem d_X2_begin_31 : decode M_X2_begin.2.1 31 = .ok (.iload_n 2, 1) := by decide +kernel
theorem d_X2_begin_32 : decode M_X2_begin.2.1 32 = .ok (.iaload, 1) := by decide +kernel
theorem d_X2_begin_33 : decode M_X2_begin.2.1 33 = .ok (.putfield 28, 3) := by decide +kernel
theorem d_X2_begin_36 : decode M_X2_begin.2.1 36 = .ok (.aload_n 0, 1) := by decide +kernel
theorem d_X2_begin_37 : decode M_X2_begin.2.1 37 = .ok (.aload_n 1, 1) := by decide +kernel
theorem d_X2_begin_38 : decode M_X2_begin.2.1 38 = .ok (.getfield 59, 3) := by decide +kernel
theorem d_X2_begin_41 : decode M_X2_begin.2.1 41 = .ok (.iload_n 2, 1) := by decide +kernel
theorem d_X2_begin_42 : decode M_X2_begin.2.1 42 = .ok (.iaload, 1) := by decide +kernel
theorem d_X2_begin_43 : decode M_X2_begin.2.1 43 = .ok (.putfield 31, 3) := by decide +kernel
theorem d_X2_begin_46 : decode M_X2_begin.2.1 46 = .ok (.aload_n 0, 1) := by decide +kernel
theorem d_X2_begin_47 : decode M_X2_begin.2.1 47 = .ok (.aload_n 1, 1) := by decide +kernel
theorem d_X2_begin_48 : decode M_X2_begin.2.1 48 = .ok (.getfield 61, 3) := by decide +kernel
theorem d_X2_begin_51 : decode M_X2_begin.2.1 51 = .ok (.putfield 34, 3) := by decide +kernel
theorem d_X2_begin_54 : decode M_X2_begin.2.1 54 = .ok (.return_, 1) := by decide +kernel
theorem ce_X2_begin : zw_CeV M_X2_begin 2 := ⟨⟨⟨by decide +kernel, by decide +kernel, by decide +kernel⟩, (zw_mG (List.mem_of_getElem? (i := 895) (by decide +kernel)) rfl), (zw_mG (List.mem_of_getElem? (i := 103) (by decide +kernel)) rfl), by decide, by decide +kernel⟩, (zw_mG (List.mem_of_getElem? (i := 893) (by decide +kernel)) rfl), (zw_mG (List.mem_of_getElem? (i := 894) (by decide +kernel)) rfl)⟩
def f_X2_begin (v0 : Nat) (v1 : Nat) (v2 : Int32) (I : zI) (R : zR) : Option (zI) :=
  zw_g (zw_gc v0 2) (zw_g (zw_gc (R v0 2) 13) ((f_J7_fill_53178 (R v0 2) 0 I).bind fun q3 => (zw_g (zw_gc (R v0 3) 13) ((f_J7_fill_53178 (R v0 3) 0 q3).bind fun q5 => (zw_let (zw_u q5 v0 1 0 : zI) fun I6 => (zw_let (zw_u I6 v0 4 0 : zI) fun I7 => (zw_g (zw_gc v1 7) (zw_g (zw_gc (R v1 0) 13) (zw_g (zw_in v2 (zw_SH (R v1 0)).2) (zw_let (zw_u I7 v0 5 (I7 (R v1 0) (Int32.toNatClampNeg v2)) : zI) fun I11 => (zw_g (zw_gc (R v1 1) 13) (zw_g (zw_in v2 (zw_SH (R v1 1)).2) (zw_let (zw_u I11 v0 6 (I11 (R v1 1) (Int32.toNatClampNeg v2)) : zI) fun I14 => (zw_let (zw_u I14 v0 7 (I14 v1 2) : zI) fun I15 => (some I15)))))))))))))))
theorem c_X2_begin (X : zw_X) (v0 : Nat) (v1 : Nat) (v2 : Int32) (I : zI) (R : zR) (J : zJ) {P : Option Value → aS → Prop} (o : zI) (hf : f_X2_begin v0 v1 v2 I R = some o) (hk : P none (o, R, J)) : zw_C X M_X2_begin 1 0 0 199 [.ref v0, .ref v1, .int v2] (I, R, J) P := by
  show zy_V X M_X2_begin 1 P 0 [.ref v0, .ref v1, .int v2] [] (I, R, J)
  unfold f_X2_begin at hf
  refine zv_aload_n (pc := 0) d_X2_begin_0 rfl ?_
  obtain ⟨g1, hf⟩ := zw_gcE hf (by decide)
  obtain ⟨g2, hf⟩ := zw_gcE hf (by decide)
  refine zx_getR (pc := 1) d_X2_begin_1 lk_CutStones_Light_19 (by decide) g1 g2 ?_
  refine zv_iconst (pc := 4) d_X2_begin_4 zc_i_0 ?_
  obtain ⟨q3, hq3, hf⟩ := zw_bdE hf
  refine zx_callS (pc := 5) (As := [.ref (R v0 2), .int 0]) (st := []) (d2 := 0) (M2 := M_J7_fill_53178) (P2 := (fun r S => r = none ∧ S = (q3, R, J))) d_X2_begin_5 (zw_mG (List.mem_of_getElem? (i := 896) (by decide +kernel)) rfl) ce_J7_fill_53178 (Nat.le_of_ble_eq_true rfl) rfl (Nat.le_of_ble_eq_true rfl) (by decide) (c_J7_fill_53178 X (R v0 2) 0 I R J _ hq3 ⟨rfl, rfl⟩) ?_
  rintro _ _ ⟨rfl, rfl⟩
  show zy_V X M_X2_begin 1 P (5 + 3) [.ref v0, .ref v1, .int v2] [] (q3, R, J)
  refine zv_aload_n (pc := 8) d_X2_begin_8 rfl ?_
  obtain ⟨g4, hf⟩ := zw_gcE hf (by decide)
  refine zx_getR (pc := 9) d_X2_begin_9 lk_CutStones_Light_22 (by decide) g1 g4 ?_
  refine zv_iconst (pc := 12) d_X2_begin_12 zc_i_0 ?_
  obtain ⟨q5, hq5, hf⟩ := zw_bdE hf
  refine zx_callS (pc := 13) (As := [.ref (R v0 3), .int 0]) (st := []) (d2 := 0) (M2 := M_J7_fill_53178) (P2 := (fun r S => r = none ∧ S = (q5, R, J))) d_X2_begin_13 (zw_mG (List.mem_of_getElem? (i := 896) (by decide +kernel)) rfl) ce_J7_fill_53178 (Nat.le_of_ble_eq_true rfl) rfl (Nat.le_of_ble_eq_true rfl) (by decide) (c_J7_fill_53178 X (R v0 3) 0 q3 R J _ hq5 ⟨rfl, rfl⟩) ?_
  rintro _ _ ⟨rfl, rfl⟩
  show zy_V X M_X2_begin 1 P (13 + 3) [.ref v0, .ref v1, .int v2] [] (q5, R, J)
  refine zv_aload_n (pc := 16) d_X2_begin_16 rfl ?_
  refine zv_iconst (pc := 17) d_X2_begin_17 zc_i_0 ?_
  obtain ⟨I6, eI6, hf⟩ := zw_letE hf
  refine zx_putI (pc := 18) (I2 := I6) d_X2_begin_18 lk_CutStones_Light_15 rfl g1 eI6 ?_
  refine zv_aload_n (pc := 21) d_X2_begin_21 rfl ?_
  refine zv_iconst (pc := 22) d_X2_begin_22 zc_i_0 ?_
  obtain ⟨I7, eI7, hf⟩ := zw_letE hf
  refine zx_putI (pc := 23) (I2 := I7) d_X2_begin_23 lk_CutStones_Light_25 rfl g1 eI7 ?_
  refine zv_aload_n (pc := 26) d_X2_begin_26 rfl ?_
  refine zv_aload_n (pc := 27) d_X2_begin_27 rfl ?_
  obtain ⟨g8, hf⟩ := zw_gcE hf (by decide)
  obtain ⟨g9, hf⟩ := zw_gcE hf (by decide)
  refine zx_getR (pc := 28) d_X2_begin_28 lk_CutStones_Light_55 (by decide) g8 g9 ?_
  refine zv_iload_n (pc := 31) d_X2_begin_31 rfl ?_
  obtain ⟨i10, hf⟩ := zw_inE hf
  refine zx_iald (pc := 32) d_X2_begin_32 g9 i10 ?_
  obtain ⟨I11, eI11, hf⟩ := zw_letE hf
  refine zx_putI (pc := 33) (I2 := I11) d_X2_begin_33 lk_CutStones_Light_28 rfl g1 eI11 ?_
  refine zv_aload_n (pc := 36) d_X2_begin_36 rfl ?_
  refine zv_aload_n (pc := 37) d_X2_begin_37 rfl ?_
  obtain ⟨g12, hf⟩ := zw_gcE hf (by decide)
  refine zx_getR (pc := 38) d_X2_begin_38 lk_CutStones_Light_59 (by decide) g8 g12 ?_
  refine zv_iload_n (pc := 41) d_X2_begin_41 rfl ?_
  obtain ⟨i13, hf⟩ := zw_inE hf
  refine zx_iald (pc := 42) d_X2_begin_42 g12 i13 ?_
  obtain ⟨I14, eI14, hf⟩ := zw_letE hf
  refine zx_putI (pc := 43) (I2 := I14) d_X2_begin_43 lk_CutStones_Light_31 rfl g1 eI14 ?_
  refine zv_aload_n (pc := 46) d_X2_begin_46 rfl ?_
  refine zv_aload_n (pc := 47) d_X2_begin_47 rfl ?_
  refine zx_getI (pc := 48) d_X2_begin_48 lk_CutStones_Light_61 (by decide) g8 ?_
  obtain ⟨I15, eI15, hf⟩ := zw_letE hf
  refine zx_putI (pc := 51) (I2 := I15) d_X2_begin_51 lk_CutStones_Light_34 rfl g1 eI15 ?_
  cases hf
  exact zx_vret (pc := 54) d_X2_begin_54 rfl hk
abbrev M_X2_enter : zw_M := (⟨"CutStones$Light", "enter", "(LCutStones$Drawing;III)V"⟩, prog_4_method_4_code, 6, (Option.none : Option Jvm.ClassFile.FieldType))
theorem d_X2_enter_0 : decode M_X2_enter.2.1 0 = .ok (.aload_n 0, 1) := by decide +kernel
theorem d_X2_enter_1 : decode M_X2_enter.2.1 1 = .ok (.iload_n 2, 1) := by decide +kernel
theorem d_X2_enter_2 : decode M_X2_enter.2.1 2 = .ok (.iconst 2, 1) := by decide +kernel
theorem d_X2_enter_3 : decode M_X2_enter.2.1 3 = .ok (.ixor, 1) := by decide +kernel
theorem d_X2_enter_4 : decode M_X2_enter.2.1 4 = .ok (.putfield 43, 3) := by decide +kernel
theorem d_X2_enter_7 : decode M_X2_enter.2.1 7 = .ok (.aload_n 0, 1) := by decide +kernel
theorem d_X2_enter_8 : decode M_X2_enter.2.1 8 = .ok (.iload_n 2, 1) := by decide +kernel
theorem d_X2_enter_9 : decode M_X2_enter.2.1 9 = .ok (.ifCond .ne 7, 3) := by decide +kernel
theorem d_X2_enter_12 : decode M_X2_enter.2.1 12 = .ok (.iload_n 3, 1) := by decide +kernel
theorem d_X2_enter_13 : decode M_X2_enter.2.1 13 = .ok (.goto 18, 3) := by decide +kernel
theorem d_X2_enter_16 : decode M_X2_enter.2.1 16 = .ok (.iload_n 2, 1) := by decide +kernel
theorem d_X2_enter_17 : decode M_X2_enter.2.1 17 = .ok (.iconst 1, 1) := by decide +kernel
theorem d_X2_enter_18 : decode M_X2_enter.2.1 18 = .ok (.if_icmp .ne 12, 3) := by decide +kernel
theorem d_X2_enter_21 : decode M_X2_enter.2.1 21 = .ok (.aload_n 1, 1) := by decide +kernel
theorem d_X2_enter_22 : decode M_X2_enter.2.1 22 = .ok (.getfield 70, 3) := by decide +kernel
theorem d_X2_enter_25 : decode M_X2_enter.2.1 25 = .ok (.iconst 1, 1) := by decide +kernel
theorem d_X2_enter_26 : decode M_X2_enter.2.1 26 = .ok (.isub, 1) := by decide +kernel
theorem d_X2_enter_27 : decode M_X2_enter.2.1 27 = .ok (.goto 4, 3) := by decide +kernel
theorem d_X2_enter_30 : decode M_X2_enter.2.1 30 = .ok (.iconst 0, 1) := by decide +kernel
theorem d_X2_enter_31 : decode M_X2_enter.2.1 31 = .ok (.putfield 37, 3) := by decide +kernel
theorem d_X2_enter_34 : decode M_X2_enter.2.1 34 = .ok (.aload_n 0, 1) := by decide +kernel
theorem d_X2_enter_35 : decode M_X2_enter.2.1 35 = .ok (.iload_n 2, 1) := by decide +kernel
theorem d_X2_enter_36 : decode M_X2_enter.2.1 36 = .ok (.ifCond .ne 7, 3) := by decide +kernel
theorem d_X2_enter_39 : decode M_X2_enter.2.1 39 = .ok (.iconst 0, 1) := by decide +kernel
theorem d_X2_enter_40 : decode M_X2_enter.2.1 40 = .ok (.goto 4, 3) := by decide +kernel
theorem d_X2_enter_43 : decode M_X2_enter.2.1 43 = .ok (.iload_n 3, 1) := by decide +kernel
theorem d_X2_enter_44 : decode M_X2_enter.2.1 44 = .ok (.putfield 40, 3) := by decide +kernel
theorem d_X2_enter_47 : decode M_X2_enter.2.1 47 = .ok (.iconst 1, 1) := by decide +kernel
theorem d_X2_enter_48 : decode M_X2_enter.2.1 48 = .ok (.istore 5, 2) := by decide +kernel
theorem d_X2_enter_50 : decode M_X2_enter.2.1 50 = .ok (.iload 5, 2) := by decide +kernel
theorem d_X2_enter_52 : decode M_X2_enter.2.1 52 = .ok (.bipush 12, 2) := by decide +kernel
theorem d_X2_enter_54 : decode M_X2_enter.2.1 54 = .ok (.if_icmp .ge 58, 3) := by decide +kernel
theorem d_X2_enter_57 : decode M_X2_enter.2.1 57 = .ok (.aload_n 1, 1) := by decide +kernel
theorem d_X2_enter_58 : decode M_X2_enter.2.1 58 = .ok (.aload_n 0, 1) := by decide +kernel
theorem d_X2_enter_59 : decode M_X2_enter.2.1 59 = .ok (.getfield 37, 3) := by decide +kernel
theorem d_X2_enter_62 : decode M_X2_enter.2.1 62 = .ok (.aload_n 0, 1) := by decide +kernel
theorem d_X2_enter_63 : decode M_X2_enter.2.1 63 = .ok (.getfield 40, 3) := by decide +kernel
theorem d_X2_enter_66 : decode M_X2_enter.2.1 66 = .ok (.invokevirtual 75, 3) := by decide +kernel
theorem d_X2_enter_69 : decode M_X2_enter.2.1 69 = .ok (.ifCond .ne 43, 3) := by decide +kernel
theorem d_X2_enter_72 : decode M_X2_enter.2.1 72 = .ok (.aload_n 0, 1) := by decide +kernel
theorem d_X2_enter_73 : decode M_X2_enter.2.1 73 = .ok (.dup, 1) := by decide +kernel
theorem d_X2_enter_74 : decode M_X2_enter.2.1 74 = .ok (.getfield 37, 3) := by decide +kernel
theorem d_X2_enter_77 : decode M_X2_enter.2.1 77 = .ok (.getstatic 79, 3) := by decide +kernel
theorem d_X2_enter_80 : decode M_X2_enter.2.1 80 = .ok (.aload_n 0, 1) := by decide +kernel
theorem d_X2_enter_81 : decode M_X2_enter.2.1 81 = .ok (.getfield 43, 3) := by decide +kernel
theorem d_X2_enter_84 : decode M_X2_enter.2.1 84 = .ok (.iaload, 1) := by decide +kernel
theorem d_X2_enter_85 : decode M_X2_enter.2.1 85 = .ok (.iadd, 1) := by decide +kernel
theorem d_X2_enter_86 : decode M_X2_enter.2.1 86 = .ok (.putfield 37, 3) := by decide +kernel
theorem d_X2_enter_89 : decode M_X2_enter.2.1 89 = .ok (.aload_n 0, 1) := by decide +kernel
theorem d_X2_enter_90 : decode M_X2_enter.2.1 90 = .ok (.dup, 1) := by decide +kernel
theorem d_X2_enter_91 : decode M_X2_enter.2.1 91 = .ok (.getfield 40, 3) := by decide +kernel
theorem d_X2_enter_94 : decode M_X2_enter.2.1 94 = .ok (.getstatic 82, 3) := by decide +kernel
theorem d_X2_enter_97 : decode M_X2_enter.2.1 97 = .ok (.aload_n 0, 1) := by decide +kernel
theorem d_X2_enter_98 : decode M_X2_enter.2.1 98 = .ok (.getfield 43, 3) := by decide +kernel
theorem d_X2_enter_101 : decode M_X2_enter.2.1 101 = .ok (.iaload, 1) := by decide +kernel
theorem d_X2_enter_102 : decode M_X2_enter.2.1 102 = .ok (.iadd, 1) := by decide +kernel
theorem d_X2_enter_103 : decode M_X2_enter.2.1 103 = .ok (.putfield 40, 3) := by decide +kernel
theorem d_X2_enter_106 : decode M_X2_enter.2.1 106 = .ok (.iinc 5 1, 3) := by decide +kernel
theorem d_X2_enter_109 : decode M_X2_enter.2.1 109 = .ok (.goto (-59), 3) := by decide +kernel
theorem d_X2_enter_112 : decode M_X2_enter.2.1 112 = .ok (.getstatic 85, 3) := by decide +kernel
theorem d_X2_enter_115 : decode M_X2_enter.2.1 115 = .ok (.aload_n 1, 1) := by decide +kernel
theorem d_X2_enter_116 : decode M_X2_enter.2.1 116 = .ok (.aload_n 0, 1) := by decide +kernel
theorem d_X2_enter_117 : decode M_X2_enter.2.1 117 = .ok (.getfield 37, 3) := by decide +kernel
theorem d_X2_enter_120 : decode M_X2_enter.2.1 120 = .ok (.aload_n 0, 1) := by decide +kernel
theorem d_X2_enter_121 : decode M_X2_enter.2.1 121 = .ok (.getfield 40, 3) := by decide +kernel
theorem d_X2_enter_124 : decode M_X2_enter.2.1 124 = .ok (.invokevirtual 75, 3) := by decide +kernel
theorem d_X2_enter_127 : decode M_X2_enter.2.1 127 = .ok (.iaload, 1) := by decide +kernel
theorem d_X2_enter_128 : decode M_X2_enter.2.1 128 = .ok (.iload_n 2, 1) := by decide +kernel
theorem d_X2_enter_129 : decode M_X2_enter.2.1 129 = .ok (.ishr, 1) := by decide +kernel
theorem d_X2_enter_130 : decode M_X2_enter.2.1 130 = .ok (.iconst 1, 1) := by decide +kernel
theorem d_X2_enter_131 : decode M_X2_enter.2.1 131 = .ok (.iand, 1) := by decide +kernel
theorem d_X2_enter_132 : decode M_X2_enter.2.1 132 = .ok (.iconst 1, 1) := by decide +kernel
theorem d_X2_enter_133 : decode M_X2_enter.2.1 133 = .ok (.if_icmp .ne 7, 3) := by decide +kernel
theorem d_X2_enter_136 : decode M_X2_enter.2.1 136 = .ok (.iconst 1, 1) := by decide +kernel
theorem d_X2_enter_137 : decode M_X2_enter.2.1 137 = .ok (.goto 4, 3) := by decide +kernel
theorem d_X2_enter_140 : decode M_X2_enter.2.1 140 = .ok (.iconst 0, 1) := by decide +kernel
theorem d_X2_enter_141 : decode M_X2_enter.2.1 141 = .ok (.istore 5, 2) := by decide +kernel
theorem d_X2_enter_143 : decode M_X2_enter.2.1 143 = .ok (.aload_n 0, 1) := by decide +kernel
theorem d_X2_enter_144 : decode M_X2_enter.2.1 144 = .ok (.iload 5, 2) := by decide +kernel
theorem d_X2_enter_146 : decode M_X2_enter.2.1 146 = .ok (.ifCond .eq 17, 3) := by decide +kernel
theorem d_X2_enter_149 : decode M_X2_enter.2.1 149 = .ok (.iload 4, 2) := by decide +kernel
theorem d_X2_enter_151 : decode M_X2_enter.2.1 151 = .ok (.aload_n 0, 1) := by decide +kernel
theorem d_X2_enter_152 : decode M_X2_enter.2.1 152 = .ok (.getfield 28, 3) := by decide +kernel
theorem d_X2_enter_155 : decode M_X2_enter.2.1 155 = .ok (.imul, 1) := by decide +kernel
theorem d_X2_enter_156 : decode M_X2_enter.2.1 156 = .ok (.sipush 1000, 3) := by decide +kernel
theorem d_X2_enter_159 : decode M_X2_enter.2.1 159 = .ok (.idiv, 1) := by decide +kernel
theorem d_X2_enter_160 : decode M_X2_enter.2.1 160 = .ok (.goto 4, 3) := by decide +kernel
theorem d_X2_enter_163 : decode M_X2_enter.2.1 163 = .ok (.iconst 0, 1) := by decide +kernel
theorem d_X2_enter_164 : decode M_X2_enter.2.1 164 = .ok (.putfield 46, 3) := by decide +kernel
theorem d_X2_enter_167 : decode M_X2_enter.2.1 167 = .ok (.aload_n 0, 1) := by decide +kernel
theorem d_X2_enter_168 : decode M_X2_enter.2.1 168 = .ok (.getfield 19, 3) := by decide +kernel
theorem d_X2_enter_171 : decode M_X2_enter.2.1 171 = .ok (.iconst 4, 1) := by decide +kernel
theorem d_X2_enter_172 : decode M_X2_enter.2.1 172 = .ok (.dup2, 1) := by decide +kernel
theorem d_X2_enter_173 : decode M_X2_enter.2.1 173 = .ok (.iaload, 1) := by decide +kernel
theorem d_X2_enter_174 : decode M_X2_enter.2.1 174 = .ok (.iload 4, 2) := by decide +kernel
theorem d_X2_enter_176 : decode M_X2_enter.2.1 176 = .ok (.aload_n 0, 1) := by decide +kernel
theorem d_X2_enter_177 : decode M_X2_enter.2.1 177 = .ok (.getfield 46, 3) := by decide +kernel
theorem d_X2_enter_180 : decode M_X2_enter.2.1 180 = .ok (.isub, 1) := by decide +kernel
theorem d_X2_enter_181 : decode M_X2_enter.2.1 181 = .ok (.iadd, 1) := by decide +kernel
theorem d_X2_enter_182 : decode M_X2_enter.2.1 182 = .ok (.iastore, 1) := by decide +kernel
theorem d_X2_enter_183 : decode M_X2_enter.2.1 183 = .ok (.return_, 1) := by decide +kernel
theorem ce_X2_enter : zw_CeV M_X2_enter 4 := ⟨⟨⟨by decide +kernel, by decide +kernel, by decide +kernel⟩, (zw_mG (List.mem_of_getElem? (i := 904) (by decide +kernel)) rfl), (zw_mG (List.mem_of_getElem? (i := 103) (by decide +kernel)) rfl), by decide, by decide +kernel⟩, (zw_mG (List.mem_of_getElem? (i := 903) (by decide +kernel)) rfl), (zw_mG (List.mem_of_getElem? (i := 28) (by decide +kernel)) rfl)⟩
def s_X2_enter_50 (v0 : Nat) (v1 : Nat) (v2 : Int32) (v4 : Int32) (R : zR) (s : Int32 × zI) : Option ((Int32 × zI) ⊕ (zI)) :=
  if 12 ≤ s.1 then some (.inr s.2) else zw_g (zw_gc v0 2) (zw_g (zw_gc v1 0) ((f_X0_cellAt v1 (s.2 v0 8) (s.2 v0 9) s.2 R).bind fun q13 => (if ¬ q13 = 0 then some (.inr s.2) else zw_g (zw_in (s.2 v0 10) (zw_sl 0).length) (zw_let (zw_u s.2 v0 8 ((s.2 v0 8) + ((zw_sl 0).getD (Int32.toNatClampNeg (s.2 v0 10)) 0)) : zI) fun I16 => (zw_g (zw_in (I16 v0 10) (zw_sl 1).length) (zw_let (zw_u I16 v0 9 ((I16 v0 9) + ((zw_sl 1).getD (Int32.toNatClampNeg (I16 v0 10)) 0)) : zI) fun I18 => (zw_let (s.1 + 1 : Int32) fun x19 => (some (.inl (x19, I18))))))))))
theorem s_X2_enter_50_ok (X : zw_X) (P : Option Value → aS → Prop) (v0 : Nat) (v1 : Nat) (v2 : Int32) (v4 : Int32) (R : zR) (J : zJ) (s : Int32 × zI) (o : (Int32 × zI) ⊕ (zI)) (hf : s_X2_enter_50 v0 v1 v2 v4 R s = some o) (hk : (zw_se (fun t => zy_V X M_X2_enter 1 P 50 [.ref v0, .ref v1, .int v2, .null, .int v4, .int t.1] [] (t.2, R, J)) (fun r => zy_V X M_X2_enter 1 P 112 [.ref v0, .ref v1, .int v2, .null, .int v4, .null] [] (r, R, J)) o)) : zy_V X M_X2_enter 1 P 50 [.ref v0, .ref v1, .int v2, .null, .int v4, .int s.1] [] (s.2, R, J) := by
  unfold s_X2_enter_50 at hf
  refine zv_iload (pc := 50) d_X2_enter_50 rfl ?_
  refine zv_bipush (pc := 52) d_X2_enter_52 zc_b_12 ?_
  rcases zw_ifE hf with ⟨c10, hf⟩ | ⟨c10, hf⟩
  · refine zv_icmp_ge (pc := 54) (tg := 112) d_X2_enter_54 (by decide) (fun _ => ?_) (fun q => absurd c10 q)
    cases hf
    exact zx_weak (zw_leS (zw_leS (zw_leS (zw_leN (zw_leS (zw_leN zw_leZ)))))) hk
  · refine zv_icmp_ge (pc := 54) (tg := 112) d_X2_enter_54 (by decide) (fun q => absurd q c10) (fun _ => ?_)
    refine zv_aload_n (pc := 57) d_X2_enter_57 rfl ?_
    refine zv_aload_n (pc := 58) d_X2_enter_58 rfl ?_
    obtain ⟨g11, hf⟩ := zw_gcE hf (by decide)
    refine zx_getI (pc := 59) d_X2_enter_59 lk_CutStones_Light_37 (by decide) g11 ?_
    refine zv_aload_n (pc := 62) d_X2_enter_62 rfl ?_
    refine zx_getI (pc := 63) d_X2_enter_63 lk_CutStones_Light_40 (by decide) g11 ?_
    obtain ⟨g12, hf⟩ := zw_gcE hf (by decide)
    obtain ⟨q13, hq13, hf⟩ := zw_bdE hf
    refine zx_callV (pc := 66) (As := [.int (s.2 v0 8), .int (s.2 v0 9)]) (o := v1) (st := []) (d2 := 0) (M2 := M_X0_cellAt) (P2 := (fun r S => r = (some (.int q13)) ∧ S = (s.2, R, J))) d_X2_enter_66 (zw_mG (List.mem_of_getElem? (i := 905) (by decide +kernel)) rfl) ce_X0_cellAt (zw_RvK g12 rfl rfl) (Nat.le_of_ble_eq_true rfl) rfl (Nat.le_of_ble_eq_true rfl) (by decide) (c_X0_cellAt X v1 (s.2 v0 8) (s.2 v0 9) s.2 R J _ hq13 ⟨rfl, rfl⟩) ?_
    rintro _ _ ⟨rfl, rfl⟩
    show zy_V X M_X2_enter 1 P (66 + 3) [.ref v0, .ref v1, .int v2, .null, .int v4, .int s.1] [.int q13] (s.2, R, J)
    rcases zw_ifE hf with ⟨c14, hf⟩ | ⟨c14, hf⟩
    · refine zv_if_ne (pc := 69) (tg := 112) d_X2_enter_69 (by decide) (fun _ => ?_) (fun q => absurd q c14)
      cases hf
      exact zx_weak (zw_leS (zw_leS (zw_leS (zw_leN (zw_leS (zw_leN zw_leZ)))))) hk
    · refine zv_if_ne (pc := 69) (tg := 112) d_X2_enter_69 (by decide) (fun q => absurd q c14) (fun _ => ?_)
      refine zv_aload_n (pc := 72) d_X2_enter_72 rfl ?_
      refine zv_dup (pc := 73) d_X2_enter_73 rfl ?_
      refine zx_getI (pc := 74) d_X2_enter_74 lk_CutStones_Light_37 (by decide) g11 ?_
      refine zv_gets (pc := 77) (a := 0) d_X2_enter_77 (by decide) (by decide +kernel) ?_
      refine zv_aload_n (pc := 80) d_X2_enter_80 rfl ?_
      refine zx_getI (pc := 81) d_X2_enter_81 lk_CutStones_Light_43 (by decide) g11 ?_
      obtain ⟨i15, hf⟩ := zw_inE hf
      refine zv_tald (pc := 84) d_X2_enter_84 (by decide) i15 ?_
      refine zv_iadd (pc := 85) d_X2_enter_85 ?_
      obtain ⟨I16, eI16, hf⟩ := zw_letE hf
      refine zx_putI (pc := 86) (I2 := I16) d_X2_enter_86 lk_CutStones_Light_37 rfl g11 eI16 ?_
      refine zv_aload_n (pc := 89) d_X2_enter_89 rfl ?_
      refine zv_dup (pc := 90) d_X2_enter_90 rfl ?_
      refine zx_getI (pc := 91) d_X2_enter_91 lk_CutStones_Light_40 (by decide) g11 ?_
      refine zv_gets (pc := 94) (a := 1) d_X2_enter_94 (by decide) (by decide +kernel) ?_
      refine zv_aload_n (pc := 97) d_X2_enter_97 rfl ?_
      refine zx_getI (pc := 98) d_X2_enter_98 lk_CutStones_Light_43 (by decide) g11 ?_
      obtain ⟨i17, hf⟩ := zw_inE hf
      refine zv_tald (pc := 101) d_X2_enter_101 (by decide) i17 ?_
      refine zv_iadd (pc := 102) d_X2_enter_102 ?_
      obtain ⟨I18, eI18, hf⟩ := zw_letE hf
      refine zx_putI (pc := 103) (I2 := I18) d_X2_enter_103 lk_CutStones_Light_40 rfl g11 eI18 ?_
      obtain ⟨x19, ex19, hf⟩ := zw_letE hf
      refine zx_iinc (pc := 106) (x2 := x19) (L2 := [.ref v0, .ref v1, .int v2, .null, .int v4, .int x19]) d_X2_enter_106 (by decide) rfl zc_i_1 ex19 rfl ?_
      refine zv_goto (pc := 109) (tg := 50) d_X2_enter_109 (by decide) ?_
      cases hf
      exact zx_weak (zw_leS (zw_leS (zw_leS (zw_leN (zw_leS (zw_leS zw_leZ)))))) hk
theorem s_X2_enter_50_lp (X : zw_X) (P : Option Value → aS → Prop) (v0 : Nat) (v1 : Nat) (v2 : Int32) (v4 : Int32) (R : zR) (J : zJ) (n : Nat) (s : Int32 × zI) (r : zI) (h : zw_it (s_X2_enter_50 v0 v1 v2 v4 R) n s = some r) (hq : zy_V X M_X2_enter 1 P 112 [.ref v0, .ref v1, .int v2, .null, .int v4, .null] [] (r, R, J)) : zy_V X M_X2_enter 1 P 50 [.ref v0, .ref v1, .int v2, .null, .int v4, .int s.1] [] (s.2, R, J) :=
  zw_itE (A := (fun t : Int32 × zI => zy_V X M_X2_enter 1 P 50 [.ref v0, .ref v1, .int v2, .null, .int v4, .int t.1] [] (t.2, R, J))) (Q := (fun r : zI => zy_V X M_X2_enter 1 P 112 [.ref v0, .ref v1, .int v2, .null, .int v4, .null] [] (r, R, J))) (fun s o h1 h2 => s_X2_enter_50_ok X P v0 v1 v2 v4 R J s o h1 h2) n s r h hq
def j_X2_enter_164 (v0 : Nat) (v4 : Int32) (s0 : Nat) (s1 : Int32) (I : zI) (R : zR) : Option (zI) :=
  zw_g (zw_gc s0 2) (zw_let (zw_u I s0 11 s1 : zI) fun I28 => (zw_g (zw_gc v0 2) (zw_g (zw_gc (R v0 2) 13) (zw_g (zw_in 4 (zw_SH (R v0 2)).2) (zw_g (zw_in 4 (zw_SH (R v0 2)).2) (zw_let (zw_u I28 (R v0 2) (Int32.toNatClampNeg 4) ((I28 (R v0 2) (Int32.toNatClampNeg 4)) + (v4 - (I28 v0 11))) : zI) fun I33 => (some I33)))))))
theorem j_X2_enter_164_ok (X : zw_X) (P : Option Value → aS → Prop) (v0 : Nat) (v4 : Int32) (s0 : Nat) (s1 : Int32) (I : zI) (R : zR) (J : zJ) (o : zI) (hf : j_X2_enter_164 v0 v4 s0 s1 I R = some o) (hk : P none (o, R, J)) : zy_V X M_X2_enter 1 P 164 [.ref v0, .null, .null, .null, .int v4, .null] [.int s1, .ref s0] (I, R, J) := by
  unfold j_X2_enter_164 at hf
  obtain ⟨g27, hf⟩ := zw_gcE hf (by decide)
  obtain ⟨I28, eI28, hf⟩ := zw_letE hf
  refine zx_putI (pc := 164) (I2 := I28) d_X2_enter_164 lk_CutStones_Light_46 rfl g27 eI28 ?_
  refine zv_aload_n (pc := 167) d_X2_enter_167 rfl ?_
  obtain ⟨g29, hf⟩ := zw_gcE hf (by decide)
  obtain ⟨g30, hf⟩ := zw_gcE hf (by decide)
  refine zx_getR (pc := 168) d_X2_enter_168 lk_CutStones_Light_19 (by decide) g29 g30 ?_
  refine zv_iconst (pc := 171) d_X2_enter_171 zc_i_4 ?_
  refine zv_dup2 (pc := 172) d_X2_enter_172 rfl rfl ?_
  obtain ⟨i31, hf⟩ := zw_inE hf
  refine zx_iald (pc := 173) d_X2_enter_173 g30 i31 ?_
  refine zv_iload (pc := 174) d_X2_enter_174 rfl ?_
  refine zv_aload_n (pc := 176) d_X2_enter_176 rfl ?_
  refine zx_getI (pc := 177) d_X2_enter_177 lk_CutStones_Light_46 (by decide) g29 ?_
  refine zv_isub (pc := 180) d_X2_enter_180 ?_
  refine zv_iadd (pc := 181) d_X2_enter_181 ?_
  obtain ⟨i32, hf⟩ := zw_inE hf
  obtain ⟨I33, eI33, hf⟩ := zw_letE hf
  refine zx_iast (pc := 182) (I2 := I33) d_X2_enter_182 g30 i32 eI33 ?_
  cases hf
  exact zx_vret (pc := 183) d_X2_enter_183 rfl hk
def j_X2_enter_141 (v0 : Nat) (v4 : Int32) (s0 : Int32) (I : zI) (R : zR) : Option (zI) :=
  if s0 = 0 then j_X2_enter_164 v0 v4 v0 0 I R else zw_g (zw_gc v0 2) (j_X2_enter_164 v0 v4 v0 ((v4 * (I v0 5)) / 1000) I R)
theorem j_X2_enter_141_ok (X : zw_X) (P : Option Value → aS → Prop) (v0 : Nat) (v4 : Int32) (s0 : Int32) (I : zI) (R : zR) (J : zJ) (o : zI) (hf : j_X2_enter_141 v0 v4 s0 I R = some o) (hk : P none (o, R, J)) : zy_V X M_X2_enter 1 P 141 [.ref v0, .null, .null, .null, .int v4, .null] [.int s0] (I, R, J) := by
  unfold j_X2_enter_141 at hf
  refine zx_istore (pc := 141) (x2 := s0) (L2 := [.ref v0, .null, .null, .null, .int v4, .int s0]) d_X2_enter_141 (by decide) rfl rfl ?_
  refine zv_aload_n (pc := 143) d_X2_enter_143 rfl ?_
  refine zv_iload (pc := 144) d_X2_enter_144 rfl ?_
  rcases zw_ifE hf with ⟨c26, hf⟩ | ⟨c26, hf⟩
  · refine zv_if_eq (pc := 146) (tg := 163) d_X2_enter_146 (by decide) (fun _ => ?_) (fun q => absurd c26 q)
    refine zv_iconst (pc := 163) d_X2_enter_163 zc_i_0 ?_
    exact zx_weak (zw_leS (zw_leN (zw_leN (zw_leN (zw_leS (zw_leN zw_leZ)))))) (j_X2_enter_164_ok X P v0 v4 v0 0 I R J _ hf hk)
  · refine zv_if_eq (pc := 146) (tg := 163) d_X2_enter_146 (by decide) (fun q => absurd q c26) (fun _ => ?_)
    refine zv_iload (pc := 149) d_X2_enter_149 rfl ?_
    refine zv_aload_n (pc := 151) d_X2_enter_151 rfl ?_
    obtain ⟨g34, hf⟩ := zw_gcE hf (by decide)
    refine zx_getI (pc := 152) d_X2_enter_152 lk_CutStones_Light_28 (by decide) g34 ?_
    refine zv_imul (pc := 155) d_X2_enter_155 ?_
    refine zv_sipush (pc := 156) d_X2_enter_156 zc_s_1000 ?_
    refine zv_idiv (pc := 159) d_X2_enter_159 (by decide +kernel) ?_
    refine zv_goto (pc := 160) (tg := 164) d_X2_enter_160 (by decide) ?_
    exact zx_weak (zw_leS (zw_leN (zw_leN (zw_leN (zw_leS (zw_leN zw_leZ)))))) (j_X2_enter_164_ok X P v0 v4 v0 ((v4 * (I v0 5)) / 1000) I R J _ hf hk)
def j_X2_enter_112 (v0 : Nat) (v1 : Nat) (v2 : Int32) (v4 : Int32) (I : zI) (R : zR) : Option (zI) :=
  zw_g (zw_gc v0 2) (zw_g (zw_gc v1 0) ((f_X0_cellAt v1 (I v0 8) (I v0 9) I R).bind fun q23 => (zw_g (zw_in q23 (zw_sl 2).length) (if ¬ ((((zw_sl 2).getD (Int32.toNatClampNeg q23) 0) >>> (v2 &&& 31)) &&& 1) = 1 then j_X2_enter_141 v0 v4 0 I R else j_X2_enter_141 v0 v4 1 I R))))
theorem j_X2_enter_112_ok (X : zw_X) (P : Option Value → aS → Prop) (v0 : Nat) (v1 : Nat) (v2 : Int32) (v4 : Int32) (I : zI) (R : zR) (J : zJ) (o : zI) (hf : j_X2_enter_112 v0 v1 v2 v4 I R = some o) (hk : P none (o, R, J)) : zy_V X M_X2_enter 1 P 112 [.ref v0, .ref v1, .int v2, .null, .int v4, .null] [] (I, R, J) := by
  unfold j_X2_enter_112 at hf
  refine zv_gets (pc := 112) (a := 2) d_X2_enter_112 (by decide) (by decide +kernel) ?_
  refine zv_aload_n (pc := 115) d_X2_enter_115 rfl ?_
  refine zv_aload_n (pc := 116) d_X2_enter_116 rfl ?_
  obtain ⟨g21, hf⟩ := zw_gcE hf (by decide)
  refine zx_getI (pc := 117) d_X2_enter_117 lk_CutStones_Light_37 (by decide) g21 ?_
  refine zv_aload_n (pc := 120) d_X2_enter_120 rfl ?_
  refine zx_getI (pc := 121) d_X2_enter_121 lk_CutStones_Light_40 (by decide) g21 ?_
  obtain ⟨g22, hf⟩ := zw_gcE hf (by decide)
  obtain ⟨q23, hq23, hf⟩ := zw_bdE hf
  refine zx_callV (pc := 124) (As := [.int (I v0 8), .int (I v0 9)]) (o := v1) (st := [.ref (1000 + 2)]) (d2 := 0) (M2 := M_X0_cellAt) (P2 := (fun r S => r = (some (.int q23)) ∧ S = (I, R, J))) d_X2_enter_124 (zw_mG (List.mem_of_getElem? (i := 905) (by decide +kernel)) rfl) ce_X0_cellAt (zw_RvK g22 rfl rfl) (Nat.le_of_ble_eq_true rfl) rfl (Nat.le_of_ble_eq_true rfl) (by decide) (c_X0_cellAt X v1 (I v0 8) (I v0 9) I R J _ hq23 ⟨rfl, rfl⟩) ?_
  rintro _ _ ⟨rfl, rfl⟩
  show zy_V X M_X2_enter 1 P (124 + 3) [.ref v0, .ref v1, .int v2, .null, .int v4, .null] [.int q23, .ref (1000 + 2)] (I, R, J)
  obtain ⟨i24, hf⟩ := zw_inE hf
  refine zv_tald (pc := 127) d_X2_enter_127 (by decide) i24 ?_
  refine zv_iload_n (pc := 128) d_X2_enter_128 rfl ?_
  refine zv_ishr (pc := 129) d_X2_enter_129 ?_
  refine zv_iconst (pc := 130) d_X2_enter_130 zc_i_1 ?_
  refine zv_iand (pc := 131) d_X2_enter_131 ?_
  refine zv_iconst (pc := 132) d_X2_enter_132 zc_i_1 ?_
  rcases zw_ifE hf with ⟨c25, hf⟩ | ⟨c25, hf⟩
  · refine zv_icmp_ne (pc := 133) (tg := 140) d_X2_enter_133 (by decide) (fun _ => ?_) (fun q => absurd q c25)
    refine zv_iconst (pc := 140) d_X2_enter_140 zc_i_0 ?_
    exact zx_weak (zw_leS (zw_leN (zw_leN (zw_leN (zw_leS (zw_leN zw_leZ)))))) (j_X2_enter_141_ok X P v0 v4 0 I R J _ hf hk)
  · refine zv_icmp_ne (pc := 133) (tg := 140) d_X2_enter_133 (by decide) (fun q => absurd q c25) (fun _ => ?_)
    refine zv_iconst (pc := 136) d_X2_enter_136 zc_i_1 ?_
    refine zv_goto (pc := 137) (tg := 141) d_X2_enter_137 (by decide) ?_
    exact zx_weak (zw_leS (zw_leN (zw_leN (zw_leN (zw_leS (zw_leN zw_leZ)))))) (j_X2_enter_141_ok X P v0 v4 1 I R J _ hf hk)
def j_X2_enter_44 (v0 : Nat) (v1 : Nat) (v2 : Int32) (v4 : Int32) (s0 : Nat) (s1 : Int32) (I : zI) (R : zR) : Option (zI) :=
  zw_g (zw_gc s0 2) (zw_let (zw_u I s0 9 s1 : zI) fun I9 => ((zw_it (s_X2_enter_50 v0 v1 v2 v4 R) 1000000 (1, I9)).bind fun q20 => (j_X2_enter_112 v0 v1 v2 v4 q20 R)))
theorem j_X2_enter_44_ok (X : zw_X) (P : Option Value → aS → Prop) (v0 : Nat) (v1 : Nat) (v2 : Int32) (v4 : Int32) (s0 : Nat) (s1 : Int32) (I : zI) (R : zR) (J : zJ) (o : zI) (hf : j_X2_enter_44 v0 v1 v2 v4 s0 s1 I R = some o) (hk : P none (o, R, J)) : zy_V X M_X2_enter 1 P 44 [.ref v0, .ref v1, .int v2, .null, .int v4, .null] [.int s1, .ref s0] (I, R, J) := by
  unfold j_X2_enter_44 at hf
  obtain ⟨g8, hf⟩ := zw_gcE hf (by decide)
  obtain ⟨I9, eI9, hf⟩ := zw_letE hf
  refine zx_putI (pc := 44) (I2 := I9) d_X2_enter_44 lk_CutStones_Light_40 rfl g8 eI9 ?_
  refine zv_iconst (pc := 47) d_X2_enter_47 zc_i_1 ?_
  refine zx_istore (pc := 48) (x2 := 1) (L2 := [.ref v0, .ref v1, .int v2, .null, .int v4, .int 1]) d_X2_enter_48 (by decide) rfl rfl ?_
  obtain ⟨q20, hq20, hf⟩ := zw_bdE hf
  refine zx_weak (L' := [.ref v0, .ref v1, .int v2, .null, .int v4, .int 1]) (zw_leS (zw_leS (zw_leS (zw_leN (zw_leS (zw_leS zw_leZ)))))) (s_X2_enter_50_lp X P v0 v1 v2 v4 R J _ _ _ hq20 ?_)
  show zy_V X M_X2_enter 1 P 112 [.ref v0, .ref v1, .int v2, .null, .int v4, .null] [] (q20, R, J)
  exact zx_weak (zw_leS (zw_leS (zw_leS (zw_leN (zw_leS (zw_leN zw_leZ)))))) (j_X2_enter_112_ok X P v0 v1 v2 v4 q20 R J _ hf hk)
def j_X2_enter_31 (v0 : Nat) (v1 : Nat) (v2 : Int32) (v3 : Int32) (v4 : Int32) (s0 : Nat) (s1 : Int32) (I : zI) (R : zR) : Option (zI) :=
  zw_g (zw_gc s0 2) (zw_let (zw_u I s0 8 s1 : zI) fun I6 => (if ¬ v2 = 0 then j_X2_enter_44 v0 v1 v2 v4 v0 v3 I6 R else j_X2_enter_44 v0 v1 v2 v4 v0 0 I6 R))
theorem j_X2_enter_31_ok (X : zw_X) (P : Option Value → aS → Prop) (v0 : Nat) (v1 : Nat) (v2 : Int32) (v3 : Int32) (v4 : Int32) (s0 : Nat) (s1 : Int32) (I : zI) (R : zR) (J : zJ) (o : zI) (hf : j_X2_enter_31 v0 v1 v2 v3 v4 s0 s1 I R = some o) (hk : P none (o, R, J)) : zy_V X M_X2_enter 1 P 31 [.ref v0, .ref v1, .int v2, .int v3, .int v4, .null] [.int s1, .ref s0] (I, R, J) := by
  unfold j_X2_enter_31 at hf
  obtain ⟨g5, hf⟩ := zw_gcE hf (by decide)
  obtain ⟨I6, eI6, hf⟩ := zw_letE hf
  refine zx_putI (pc := 31) (I2 := I6) d_X2_enter_31 lk_CutStones_Light_37 rfl g5 eI6 ?_
  refine zv_aload_n (pc := 34) d_X2_enter_34 rfl ?_
  refine zv_iload_n (pc := 35) d_X2_enter_35 rfl ?_
  rcases zw_ifE hf with ⟨c7, hf⟩ | ⟨c7, hf⟩
  · refine zv_if_ne (pc := 36) (tg := 43) d_X2_enter_36 (by decide) (fun _ => ?_) (fun q => absurd q c7)
    refine zv_iload_n (pc := 43) d_X2_enter_43 rfl ?_
    exact zx_weak (zw_leS (zw_leS (zw_leS (zw_leN (zw_leS (zw_leN zw_leZ)))))) (j_X2_enter_44_ok X P v0 v1 v2 v4 v0 v3 I6 R J _ hf hk)
  · refine zv_if_ne (pc := 36) (tg := 43) d_X2_enter_36 (by decide) (fun q => absurd q c7) (fun _ => ?_)
    refine zv_iconst (pc := 39) d_X2_enter_39 zc_i_0 ?_
    refine zv_goto (pc := 40) (tg := 44) d_X2_enter_40 (by decide) ?_
    exact zx_weak (zw_leS (zw_leS (zw_leS (zw_leN (zw_leS (zw_leN zw_leZ)))))) (j_X2_enter_44_ok X P v0 v1 v2 v4 v0 0 I6 R J _ hf hk)
def f_X2_enter (v0 : Nat) (v1 : Nat) (v2 : Int32) (v3 : Int32) (v4 : Int32) (I : zI) (R : zR) : Option (zI) :=
  zw_g (zw_gc v0 2) (zw_let (zw_u I v0 10 (v2 ^^^ 2) : zI) fun I2 => (if ¬ v2 = 0 then if ¬ v2 = 1 then j_X2_enter_31 v0 v1 v2 v3 v4 v0 0 I2 R else zw_g (zw_gc v1 0) (j_X2_enter_31 v0 v1 v2 v3 v4 v0 ((I2 v1 1) - 1) I2 R) else j_X2_enter_31 v0 v1 v2 v3 v4 v0 v3 I2 R))
theorem c_X2_enter (X : zw_X) (v0 : Nat) (v1 : Nat) (v2 : Int32) (v3 : Int32) (v4 : Int32) (I : zI) (R : zR) (J : zJ) {P : Option Value → aS → Prop} (o : zI) (hf : f_X2_enter v0 v1 v2 v3 v4 I R = some o) (hk : P none (o, R, J)) : zw_C X M_X2_enter 1 0 0 199 [.ref v0, .ref v1, .int v2, .int v3, .int v4] (I, R, J) P := by
  show zy_V X M_X2_enter 1 P 0 [.ref v0, .ref v1, .int v2, .int v3, .int v4, .null] [] (I, R, J)
  unfold f_X2_enter at hf
  refine zv_aload_n (pc := 0) d_X2_enter_0 rfl ?_
  refine zv_iload_n (pc := 1) d_X2_enter_1 rfl ?_
  refine zv_iconst (pc := 2) d_X2_enter_2 zc_i_2 ?_
  refine zv_ixor (pc := 3) d_X2_enter_3 ?_
  obtain ⟨g1, hf⟩ := zw_gcE hf (by decide)
  obtain ⟨I2, eI2, hf⟩ := zw_letE hf
  refine zx_putI (pc := 4) (I2 := I2) d_X2_enter_4 lk_CutStones_Light_43 rfl g1 eI2 ?_
  refine zv_aload_n (pc := 7) d_X2_enter_7 rfl ?_
  refine zv_iload_n (pc := 8) d_X2_enter_8 rfl ?_
  rcases zw_ifE hf with ⟨c3, hf⟩ | ⟨c3, hf⟩
  · refine zv_if_ne (pc := 9) (tg := 16) d_X2_enter_9 (by decide) (fun _ => ?_) (fun q => absurd q c3)
    refine zv_iload_n (pc := 16) d_X2_enter_16 rfl ?_
    refine zv_iconst (pc := 17) d_X2_enter_17 zc_i_1 ?_
    rcases zw_ifE hf with ⟨c4, hf⟩ | ⟨c4, hf⟩
    · refine zv_icmp_ne (pc := 18) (tg := 30) d_X2_enter_18 (by decide) (fun _ => ?_) (fun q => absurd q c4)
      refine zv_iconst (pc := 30) d_X2_enter_30 zc_i_0 ?_
      exact zx_weak (zw_leS (zw_leS (zw_leS (zw_leS (zw_leS (zw_leN zw_leZ)))))) (j_X2_enter_31_ok X P v0 v1 v2 v3 v4 v0 0 I2 R J _ hf hk)
    · refine zv_icmp_ne (pc := 18) (tg := 30) d_X2_enter_18 (by decide) (fun q => absurd q c4) (fun _ => ?_)
      refine zv_aload_n (pc := 21) d_X2_enter_21 rfl ?_
      obtain ⟨g35, hf⟩ := zw_gcE hf (by decide)
      refine zx_getI (pc := 22) d_X2_enter_22 lk_CutStones_Light_70 (by decide) g35 ?_
      refine zv_iconst (pc := 25) d_X2_enter_25 zc_i_1 ?_
      refine zv_isub (pc := 26) d_X2_enter_26 ?_
      refine zv_goto (pc := 27) (tg := 31) d_X2_enter_27 (by decide) ?_
      exact zx_weak (zw_leS (zw_leS (zw_leS (zw_leS (zw_leS (zw_leN zw_leZ)))))) (j_X2_enter_31_ok X P v0 v1 v2 v3 v4 v0 ((I2 v1 1) - 1) I2 R J _ hf hk)
  · refine zv_if_ne (pc := 9) (tg := 16) d_X2_enter_9 (by decide) (fun q => absurd q c3) (fun _ => ?_)
    refine zv_iload_n (pc := 12) d_X2_enter_12 rfl ?_
    refine zv_goto (pc := 13) (tg := 31) d_X2_enter_13 (by decide) ?_
    exact zx_weak (zw_leS (zw_leS (zw_leS (zw_leS (zw_leS (zw_leN zw_leZ)))))) (j_X2_enter_31_ok X P v0 v1 v2 v3 v4 v0 v3 I2 R J _ hf hk)
abbrev M_X2_goThrough : zw_M := (⟨"CutStones$Light", "goThrough", "(LCutStones$Drawing;)V"⟩, prog_4_method_5_code, 6, (Option.none : Option Jvm.ClassFile.FieldType))
theorem d_X2_goThrough_0 : decode M_X2_goThrough.2.1 0 = .ok (.aload_n 1, 1) := by decide +kernel
theorem d_X2_goThrough_1 : decode M_X2_goThrough.2.1 1 = .ok (.aload_n 0, 1) := by decide +kernel
theorem d_X2_goThrough_2 : decode M_X2_goThrough.2.1 2 = .ok (.getfield 37, 3) := by decide +kernel
theorem d_X2_goThrough_5 : decode M_X2_goThrough.2.1 5 = .ok (.aload_n 0, 1) := by decide +kernel
theorem d_X2_goThrough_6 : decode M_X2_goThrough.2.1 6 = .ok (.getfield 40, 3) := by decide +kernel
theorem d_X2_goThrough_9 : decode M_X2_goThrough.2.1 9 = .ok (.invokevirtual 75, 3) := by decide +kernel
theorem d_X2_goThrough_12 : decode M_X2_goThrough.2.1 12 = .ok (.istore_n 2, 1) := by decide +kernel
theorem d_X2_goThrough_13 : decode M_X2_goThrough.2.1 13 = .ok (.aload_n 0, 1) := by decide +kernel
theorem d_X2_goThrough_14 : decode M_X2_goThrough.2.1 14 = .ok (.getfield 9, 3) := by decide +kernel
theorem d_X2_goThrough_17 : decode M_X2_goThrough.2.1 17 = .ok (.aload_n 0, 1) := by decide +kernel
theorem d_X2_goThrough_18 : decode M_X2_goThrough.2.1 18 = .ok (.getfield 15, 3) := by decide +kernel
theorem d_X2_goThrough_21 : decode M_X2_goThrough.2.1 21 = .ok (.bipush 12, 2) := by decide +kernel
theorem d_X2_goThrough_23 : decode M_X2_goThrough.2.1 23 = .ok (.aload_n 0, 1) := by decide +kernel
theorem d_X2_goThrough_24 : decode M_X2_goThrough.2.1 24 = .ok (.getfield 40, 3) := by decide +kernel
theorem d_X2_goThrough_27 : decode M_X2_goThrough.2.1 27 = .ok (.imul, 1) := by decide +kernel
theorem d_X2_goThrough_28 : decode M_X2_goThrough.2.1 28 = .ok (.aload_n 0, 1) := by decide +kernel
theorem d_X2_goThrough_29 : decode M_X2_goThrough.2.1 29 = .ok (.getfield 37, 3) := by decide +kernel
theorem d_X2_goThrough_32 : decode M_X2_goThrough.2.1 32 = .ok (.iadd, 1) := by decide +kernel
theorem d_X2_goThrough_33 : decode M_X2_goThrough.2.1 33 = .ok (.iastore, 1) := by decide +kernel
theorem d_X2_goThrough_34 : decode M_X2_goThrough.2.1 34 = .ok (.aload_n 0, 1) := by decide +kernel
theorem d_X2_goThrough_35 : decode M_X2_goThrough.2.1 35 = .ok (.dup, 1) := by decide +kernel
theorem d_X2_goThrough_36 : decode M_X2_goThrough.2.1 36 = .ok (.getfield 15, 3) := by decide +kernel
theorem d_X2_goThrough_39 : decode M_X2_goThrough.2.1 39 = .ok (.iconst 1, 1) := by decide +kernel
theorem d_X2_goThrough_40 : decode M_X2_goThrough.2.1 40 = .ok (.iadd, 1) := by decide +kernel
theorem d_X2_goThrough_41 : decode M_X2_goThrough.2.1 41 = .ok (.putfield 15, 3) := by decide +kernel
theorem d_X2_goThrough_44 : decode M_X2_goThrough.2.1 44 = .ok (.iload_n 2, 1) := by decide +kernel
theorem d_X2_goThrough_45 : decode M_X2_goThrough.2.1 45 = .ok (.bipush 6, 2) := by decide +kernel
theorem d_X2_goThrough_47 : decode M_X2_goThrough.2.1 47 = .ok (.if_icmp .ne 50, 3) := by decide +kernel
theorem d_X2_goThrough_50 : decode M_X2_goThrough.2.1 50 = .ok (.aload_n 0, 1) := by decide +kernel
theorem d_X2_goThrough_51 : decode M_X2_goThrough.2.1 51 = .ok (.getfield 46, 3) := by decide +kernel
theorem d_X2_goThrough_54 : decode M_X2_goThrough.2.1 54 = .ok (.aload_n 0, 1) := by decide +kernel
theorem d_X2_goThrough_55 : decode M_X2_goThrough.2.1 55 = .ok (.getfield 34, 3) := by decide +kernel
theorem d_X2_goThrough_58 : decode M_X2_goThrough.2.1 58 = .ok (.imul, 1) := by decide +kernel
theorem d_X2_goThrough_59 : decode M_X2_goThrough.2.1 59 = .ok (.sipush 1000, 3) := by decide +kernel
theorem d_X2_goThrough_62 : decode M_X2_goThrough.2.1 62 = .ok (.idiv, 1) := by decide +kernel
theorem d_X2_goThrough_63 : decode M_X2_goThrough.2.1 63 = .ok (.istore_n 3, 1) := by decide +kernel
theorem d_X2_goThrough_64 : decode M_X2_goThrough.2.1 64 = .ok (.aload_n 0, 1) := by decide +kernel
theorem d_X2_goThrough_65 : decode M_X2_goThrough.2.1 65 = .ok (.getfield 19, 3) := by decide +kernel
theorem d_X2_goThrough_68 : decode M_X2_goThrough.2.1 68 = .ok (.iconst 5, 1) := by decide +kernel
theorem d_X2_goThrough_69 : decode M_X2_goThrough.2.1 69 = .ok (.dup2, 1) := by decide +kernel
theorem d_X2_goThrough_70 : decode M_X2_goThrough.2.1 70 = .ok (.iaload, 1) := by decide +kernel
theorem d_X2_goThrough_71 : decode M_X2_goThrough.2.1 71 = .ok (.iload_n 3, 1) := by decide +kernel
theorem d_X2_goThrough_72 : decode M_X2_goThrough.2.1 72 = .ok (.iadd, 1) := by decide +kernel
theorem d_X2_goThrough_73 : decode M_X2_goThrough.2.1 73 = .ok (.iastore, 1) := by decide +kernel
theorem d_X2_goThrough_74 : decode M_X2_goThrough.2.1 74 = .ok (.aload_n 0, 1) := by decide +kernel
theorem d_X2_goThrough_75 : decode M_X2_goThrough.2.1 75 = .ok (.dup, 1) := by decide +kernel
theorem d_X2_goThrough_76 : decode M_X2_goThrough.2.1 76 = .ok (.getfield 46, 3) := by decide +kernel
theorem d_X2_goThrough_79 : decode M_X2_goThrough.2.1 79 = .ok (.iload_n 3, 1) := by decide +kernel
theorem d_X2_goThrough_80 : decode M_X2_goThrough.2.1 80 = .ok (.isub, 1) := by decide +kernel
theorem d_X2_goThrough_81 : decode M_X2_goThrough.2.1 81 = .ok (.putfield 46, 3) := by decide +kernel
theorem d_X2_goThrough_84 : decode M_X2_goThrough.2.1 84 = .ok (.aload_n 0, 1) := by decide +kernel
theorem d_X2_goThrough_85 : decode M_X2_goThrough.2.1 85 = .ok (.dup, 1) := by decide +kernel
theorem d_X2_goThrough_86 : decode M_X2_goThrough.2.1 86 = .ok (.getfield 25, 3) := by decide +kernel
theorem d_X2_goThrough_89 : decode M_X2_goThrough.2.1 89 = .ok (.iconst 1, 1) := by decide +kernel
theorem d_X2_goThrough_90 : decode M_X2_goThrough.2.1 90 = .ok (.iadd, 1) := by decide +kernel
theorem d_X2_goThrough_91 : decode M_X2_goThrough.2.1 91 = .ok (.putfield 25, 3) := by decide +kernel
theorem d_X2_goThrough_94 : decode M_X2_goThrough.2.1 94 = .ok (.goto 34, 3) := by decide +kernel
theorem d_X2_goThrough_97 : decode M_X2_goThrough.2.1 97 = .ok (.iload_n 2, 1) := by decide +kernel
theorem d_X2_goThrough_98 : decode M_X2_goThrough.2.1 98 = .ok (.iconst 4, 1) := by decide +kernel
theorem d_X2_goThrough_99 : decode M_X2_goThrough.2.1 99 = .ok (.if_icmp .gt 29, 3) := by decide +kernel
theorem d_X2_goThrough_102 : decode M_X2_goThrough.2.1 102 = .ok (.aload_n 0, 1) := by decide +kernel
theorem d_X2_goThrough_103 : decode M_X2_goThrough.2.1 103 = .ok (.aload_n 0, 1) := by decide +kernel
theorem d_X2_goThrough_104 : decode M_X2_goThrough.2.1 104 = .ok (.getfield 31, 3) := by decide +kernel
theorem d_X2_goThrough_107 : decode M_X2_goThrough.2.1 107 = .ok (.invokevirtual 88, 3) := by decide +kernel
theorem d_X2_goThrough_110 : decode M_X2_goThrough.2.1 110 = .ok (.aload_n 0, 1) := by decide +kernel
theorem d_X2_goThrough_111 : decode M_X2_goThrough.2.1 111 = .ok (.getstatic 92, 3) := by decide +kernel
theorem d_X2_goThrough_114 : decode M_X2_goThrough.2.1 114 = .ok (.iload_n 2, 1) := by decide +kernel
theorem d_X2_goThrough_115 : decode M_X2_goThrough.2.1 115 = .ok (.iaload, 1) := by decide +kernel
theorem d_X2_goThrough_116 : decode M_X2_goThrough.2.1 116 = .ok (.aload_n 0, 1) := by decide +kernel
theorem d_X2_goThrough_117 : decode M_X2_goThrough.2.1 117 = .ok (.getfield 43, 3) := by decide +kernel
theorem d_X2_goThrough_120 : decode M_X2_goThrough.2.1 120 = .ok (.iconst 2, 1) := by decide +kernel
theorem d_X2_goThrough_121 : decode M_X2_goThrough.2.1 121 = .ok (.ixor, 1) := by decide +kernel
theorem d_X2_goThrough_122 : decode M_X2_goThrough.2.1 122 = .ok (.isub, 1) := by decide +kernel
theorem d_X2_goThrough_123 : decode M_X2_goThrough.2.1 123 = .ok (.iconst 3, 1) := by decide +kernel
theorem d_X2_goThrough_124 : decode M_X2_goThrough.2.1 124 = .ok (.iand, 1) := by decide +kernel
theorem d_X2_goThrough_125 : decode M_X2_goThrough.2.1 125 = .ok (.putfield 43, 3) := by decide +kernel
theorem d_X2_goThrough_128 : decode M_X2_goThrough.2.1 128 = .ok (.aload_n 0, 1) := by decide +kernel
theorem d_X2_goThrough_129 : decode M_X2_goThrough.2.1 129 = .ok (.getfield 37, 3) := by decide +kernel
theorem d_X2_goThrough_132 : decode M_X2_goThrough.2.1 132 = .ok (.getstatic 79, 3) := by decide +kernel
theorem d_X2_goThrough_135 : decode M_X2_goThrough.2.1 135 = .ok (.aload_n 0, 1) := by decide +kernel
theorem d_X2_goThrough_136 : decode M_X2_goThrough.2.1 136 = .ok (.getfield 43, 3) := by decide +kernel
theorem d_X2_goThrough_139 : decode M_X2_goThrough.2.1 139 = .ok (.iaload, 1) := by decide +kernel
theorem d_X2_goThrough_140 : decode M_X2_goThrough.2.1 140 = .ok (.iadd, 1) := by decide +kernel
theorem d_X2_goThrough_141 : decode M_X2_goThrough.2.1 141 = .ok (.istore_n 3, 1) := by decide +kernel
theorem d_X2_goThrough_142 : decode M_X2_goThrough.2.1 142 = .ok (.aload_n 0, 1) := by decide +kernel
theorem d_X2_goThrough_143 : decode M_X2_goThrough.2.1 143 = .ok (.getfield 40, 3) := by decide +kernel
theorem d_X2_goThrough_146 : decode M_X2_goThrough.2.1 146 = .ok (.getstatic 82, 3) := by decide +kernel
theorem d_X2_goThrough_149 : decode M_X2_goThrough.2.1 149 = .ok (.aload_n 0, 1) := by decide +kernel
theorem d_X2_goThrough_150 : decode M_X2_goThrough.2.1 150 = .ok (.getfield 43, 3) := by decide +kernel
theorem d_X2_goThrough_153 : decode M_X2_goThrough.2.1 153 = .ok (.iaload, 1) := by decide +kernel
theorem d_X2_goThrough_154 : decode M_X2_goThrough.2.1 154 = .ok (.iadd, 1) := by decide +kernel
theorem d_X2_goThrough_155 : decode M_X2_goThrough.2.1 155 = .ok (.istore 4, 2) := by decide +kernel
theorem d_X2_goThrough_157 : decode M_X2_goThrough.2.1 157 = .ok (.aload_n 0, 1) := by decide +kernel
theorem d_X2_goThrough_158 : decode M_X2_goThrough.2.1 158 = .ok (.getfield 43, 3) := by decide +kernel
theorem d_X2_goThrough_161 : decode M_X2_goThrough.2.1 161 = .ok (.iconst 2, 1) := by decide +kernel
theorem d_X2_goThrough_162 : decode M_X2_goThrough.2.1 162 = .ok (.ixor, 1) := by decide +kernel
theorem d_X2_goThrough_163 : decode M_X2_goThrough.2.1 163 = .ok (.istore 5, 2) := by decide +kernel
theorem d_X2_goThrough_165 : decode M_X2_goThrough.2.1 165 = .ok (.getstatic 85, 3) := by decide +kernel
theorem d_X2_goThrough_168 : decode M_X2_goThrough.2.1 168 = .ok (.aload_n 1, 1) := by decide +kernel
theorem d_X2_goThrough_169 : decode M_X2_goThrough.2.1 169 = .ok (.iload_n 3, 1) := by decide +kernel
theorem d_X2_goThrough_170 : decode M_X2_goThrough.2.1 170 = .ok (.iload 4, 2) := by decide +kernel
theorem d_X2_goThrough_172 : decode M_X2_goThrough.2.1 172 = .ok (.invokevirtual 75, 3) := by decide +kernel
theorem d_X2_goThrough_175 : decode M_X2_goThrough.2.1 175 = .ok (.iaload, 1) := by decide +kernel
theorem d_X2_goThrough_176 : decode M_X2_goThrough.2.1 176 = .ok (.iload 5, 2) := by decide +kernel
theorem d_X2_goThrough_178 : decode M_X2_goThrough.2.1 178 = .ok (.ishr, 1) := by decide +kernel
theorem d_X2_goThrough_179 : decode M_X2_goThrough.2.1 179 = .ok (.iconst 1, 1) := by decide +kernel
theorem d_X2_goThrough_180 : decode M_X2_goThrough.2.1 180 = .ok (.iand, 1) := by decide +kernel
theorem d_X2_goThrough_181 : decode M_X2_goThrough.2.1 181 = .ok (.iconst 1, 1) := by decide +kernel
theorem d_X2_goThrough_182 : decode M_X2_goThrough.2.1 182 = .ok (.if_icmp .ne 17, 3) := by decide +kernel
theorem d_X2_goThrough_185 : decode M_X2_goThrough.2.1 185 = .ok (.aload_n 0, 1) := by decide +kernel
theorem d_X2_goThrough_186 : decode M_X2_goThrough.2.1 186 = .ok (.iload_n 3, 1) := by decide +kernel
theorem d_X2_goThrough_187 : decode M_X2_goThrough.2.1 187 = .ok (.putfield 37, 3) := by decide +kernel
theorem d_X2_goThrough_190 : decode M_X2_goThrough.2.1 190 = .ok (.aload_n 0, 1) := by decide +kernel
theorem d_X2_goThrough_191 : decode M_X2_goThrough.2.1 191 = .ok (.iload 4, 2) := by decide +kernel
theorem d_X2_goThrough_193 : decode M_X2_goThrough.2.1 193 = .ok (.putfield 40, 3) := by decide +kernel
theorem d_X2_goThrough_196 : decode M_X2_goThrough.2.1 196 = .ok (.goto 17, 3) := by decide +kernel
theorem d_X2_goThrough_199 : decode M_X2_goThrough.2.1 199 = .ok (.aload_n 0, 1) := by decide +kernel
theorem d_X2_goThrough_200 : decode M_X2_goThrough.2.1 200 = .ok (.aload_n 0, 1) := by decide +kernel
theorem d_X2_goThrough_201 : decode M_X2_goThrough.2.1 201 = .ok (.getfield 28, 3) := by decide +kernel
theorem d_X2_goThrough_204 : decode M_X2_goThrough.2.1 204 = .ok (.invokevirtual 88, 3) := by decide +kernel
theorem d_X2_goThrough_207 : decode M_X2_goThrough.2.1 207 = .ok (.aload_n 0, 1) := by decide +kernel
theorem d_X2_goThrough_208 : decode M_X2_goThrough.2.1 208 = .ok (.iload 5, 2) := by decide +kernel
theorem d_X2_goThrough_210 : decode M_X2_goThrough.2.1 210 = .ok (.putfield 43, 3) := by decide +kernel
theorem d_X2_goThrough_213 : decode M_X2_goThrough.2.1 213 = .ok (.return_, 1) := by decide +kernel
theorem ce_X2_goThrough : zw_CeV M_X2_goThrough 1 := ⟨⟨⟨by decide +kernel, by decide +kernel, by decide +kernel⟩, (zw_mG (List.mem_of_getElem? (i := 915) (by decide +kernel)) rfl), (zw_mG (List.mem_of_getElem? (i := 103) (by decide +kernel)) rfl), by decide, by decide +kernel⟩, (zw_mG (List.mem_of_getElem? (i := 914) (by decide +kernel)) rfl), (zw_mG (List.mem_of_getElem? (i := 29) (by decide +kernel)) rfl)⟩
def j_X2_goThrough_128 (v0 : Nat) (v1 : Nat) (I : zI) (R : zR) : Option (zI) :=
  zw_g (zw_gc v0 2) (zw_g (zw_in (I v0 10) (zw_sl 0).length) (zw_let (((I v0 8) + ((zw_sl 0).getD (Int32.toNatClampNeg (I v0 10)) 0)) : Int32) fun x12 => (zw_g (zw_in (I v0 10) (zw_sl 1).length) (zw_let (((I v0 9) + ((zw_sl 1).getD (Int32.toNatClampNeg (I v0 10)) 0)) : Int32) fun x14 => (zw_let (((I v0 10) ^^^ 2) : Int32) fun x15 => (zw_g (zw_gc v1 0) ((f_X0_cellAt v1 x12 x14 I R).bind fun q17 => (zw_g (zw_in q17 (zw_sl 2).length) (if ¬ ((((zw_sl 2).getD (Int32.toNatClampNeg q17) 0) >>> (x15 &&& 31)) &&& 1) = 1 then (f_X2_goOut v0 (I v0 5) I R).bind fun q20 => (zw_let (zw_u q20 v0 10 x15 : zI) fun I21 => (some I21)) else zw_let (zw_u I v0 8 x12 : zI) fun I22 => (zw_let (zw_u I22 v0 9 x14 : zI) fun I23 => (some I23)))))))))))
theorem j_X2_goThrough_128_ok (X : zw_X) (P : Option Value → aS → Prop) (v0 : Nat) (v1 : Nat) (I : zI) (R : zR) (J : zJ) (o : zI) (hf : j_X2_goThrough_128 v0 v1 I R = some o) (hk : P none (o, R, J)) : zy_V X M_X2_goThrough 1 P 128 [.ref v0, .ref v1, .null, .null, .null, .null] [] (I, R, J) := by
  unfold j_X2_goThrough_128 at hf
  refine zv_aload_n (pc := 128) d_X2_goThrough_128 rfl ?_
  obtain ⟨g10, hf⟩ := zw_gcE hf (by decide)
  refine zx_getI (pc := 129) d_X2_goThrough_129 lk_CutStones_Light_37 (by decide) g10 ?_
  refine zv_gets (pc := 132) (a := 0) d_X2_goThrough_132 (by decide) (by decide +kernel) ?_
  refine zv_aload_n (pc := 135) d_X2_goThrough_135 rfl ?_
  refine zx_getI (pc := 136) d_X2_goThrough_136 lk_CutStones_Light_43 (by decide) g10 ?_
  obtain ⟨i11, hf⟩ := zw_inE hf
  refine zv_tald (pc := 139) d_X2_goThrough_139 (by decide) i11 ?_
  refine zv_iadd (pc := 140) d_X2_goThrough_140 ?_
  obtain ⟨x12, ex12, hf⟩ := zw_letE hf
  refine zx_istore_n (pc := 141) (x2 := x12) (L2 := [.ref v0, .ref v1, .null, .int x12, .null, .null]) d_X2_goThrough_141 (by decide) ex12 rfl ?_
  refine zv_aload_n (pc := 142) d_X2_goThrough_142 rfl ?_
  refine zx_getI (pc := 143) d_X2_goThrough_143 lk_CutStones_Light_40 (by decide) g10 ?_
  refine zv_gets (pc := 146) (a := 1) d_X2_goThrough_146 (by decide) (by decide +kernel) ?_
  refine zv_aload_n (pc := 149) d_X2_goThrough_149 rfl ?_
  refine zx_getI (pc := 150) d_X2_goThrough_150 lk_CutStones_Light_43 (by decide) g10 ?_
  obtain ⟨i13, hf⟩ := zw_inE hf
  refine zv_tald (pc := 153) d_X2_goThrough_153 (by decide) i13 ?_
  refine zv_iadd (pc := 154) d_X2_goThrough_154 ?_
  obtain ⟨x14, ex14, hf⟩ := zw_letE hf
  refine zx_istore (pc := 155) (x2 := x14) (L2 := [.ref v0, .ref v1, .null, .int x12, .int x14, .null]) d_X2_goThrough_155 (by decide) ex14 rfl ?_
  refine zv_aload_n (pc := 157) d_X2_goThrough_157 rfl ?_
  refine zx_getI (pc := 158) d_X2_goThrough_158 lk_CutStones_Light_43 (by decide) g10 ?_
  refine zv_iconst (pc := 161) d_X2_goThrough_161 zc_i_2 ?_
  refine zv_ixor (pc := 162) d_X2_goThrough_162 ?_
  obtain ⟨x15, ex15, hf⟩ := zw_letE hf
  refine zx_istore (pc := 163) (x2 := x15) (L2 := [.ref v0, .ref v1, .null, .int x12, .int x14, .int x15]) d_X2_goThrough_163 (by decide) ex15 rfl ?_
  refine zv_gets (pc := 165) (a := 2) d_X2_goThrough_165 (by decide) (by decide +kernel) ?_
  refine zv_aload_n (pc := 168) d_X2_goThrough_168 rfl ?_
  refine zv_iload_n (pc := 169) d_X2_goThrough_169 rfl ?_
  refine zv_iload (pc := 170) d_X2_goThrough_170 rfl ?_
  obtain ⟨g16, hf⟩ := zw_gcE hf (by decide)
  obtain ⟨q17, hq17, hf⟩ := zw_bdE hf
  refine zx_callV (pc := 172) (As := [.int x12, .int x14]) (o := v1) (st := [.ref (1000 + 2)]) (d2 := 0) (M2 := M_X0_cellAt) (P2 := (fun r S => r = (some (.int q17)) ∧ S = (I, R, J))) d_X2_goThrough_172 (zw_mG (List.mem_of_getElem? (i := 905) (by decide +kernel)) rfl) ce_X0_cellAt (zw_RvK g16 rfl rfl) (Nat.le_of_ble_eq_true rfl) rfl (Nat.le_of_ble_eq_true rfl) (by decide) (c_X0_cellAt X v1 x12 x14 I R J _ hq17 ⟨rfl, rfl⟩) ?_
  rintro _ _ ⟨rfl, rfl⟩
  show zy_V X M_X2_goThrough 1 P (172 + 3) [.ref v0, .ref v1, .null, .int x12, .int x14, .int x15] [.int q17, .ref (1000 + 2)] (I, R, J)
  obtain ⟨i18, hf⟩ := zw_inE hf
  refine zv_tald (pc := 175) d_X2_goThrough_175 (by decide) i18 ?_
  refine zv_iload (pc := 176) d_X2_goThrough_176 rfl ?_
  refine zv_ishr (pc := 178) d_X2_goThrough_178 ?_
  refine zv_iconst (pc := 179) d_X2_goThrough_179 zc_i_1 ?_
  refine zv_iand (pc := 180) d_X2_goThrough_180 ?_
  refine zv_iconst (pc := 181) d_X2_goThrough_181 zc_i_1 ?_
  rcases zw_ifE hf with ⟨c19, hf⟩ | ⟨c19, hf⟩
  · refine zv_icmp_ne (pc := 182) (tg := 199) d_X2_goThrough_182 (by decide) (fun _ => ?_) (fun q => absurd q c19)
    refine zv_aload_n (pc := 199) d_X2_goThrough_199 rfl ?_
    refine zv_aload_n (pc := 200) d_X2_goThrough_200 rfl ?_
    refine zx_getI (pc := 201) d_X2_goThrough_201 lk_CutStones_Light_28 (by decide) g10 ?_
    obtain ⟨q20, hq20, hf⟩ := zw_bdE hf
    refine zx_callV (pc := 204) (As := [.int (I v0 5)]) (o := v0) (st := []) (d2 := 0) (M2 := M_X2_goOut) (P2 := (fun r S => r = none ∧ S = (q20, R, J))) d_X2_goThrough_204 (zw_mG (List.mem_of_getElem? (i := 916) (by decide +kernel)) rfl) ce_X2_goOut (zw_RvK g10 rfl rfl) (Nat.le_of_ble_eq_true rfl) rfl (Nat.le_of_ble_eq_true rfl) (by decide) (c_X2_goOut X v0 (I v0 5) I R J _ hq20 ⟨rfl, rfl⟩) ?_
    rintro _ _ ⟨rfl, rfl⟩
    show zy_V X M_X2_goThrough 1 P (204 + 3) [.ref v0, .ref v1, .null, .int x12, .int x14, .int x15] [] (q20, R, J)
    refine zv_aload_n (pc := 207) d_X2_goThrough_207 rfl ?_
    refine zv_iload (pc := 208) d_X2_goThrough_208 rfl ?_
    obtain ⟨I21, eI21, hf⟩ := zw_letE hf
    refine zx_putI (pc := 210) (I2 := I21) d_X2_goThrough_210 lk_CutStones_Light_43 rfl g10 eI21 ?_
    cases hf
    exact zx_vret (pc := 213) d_X2_goThrough_213 rfl hk
  · refine zv_icmp_ne (pc := 182) (tg := 199) d_X2_goThrough_182 (by decide) (fun q => absurd q c19) (fun _ => ?_)
    refine zv_aload_n (pc := 185) d_X2_goThrough_185 rfl ?_
    refine zv_iload_n (pc := 186) d_X2_goThrough_186 rfl ?_
    obtain ⟨I22, eI22, hf⟩ := zw_letE hf
    refine zx_putI (pc := 187) (I2 := I22) d_X2_goThrough_187 lk_CutStones_Light_37 rfl g10 eI22 ?_
    refine zv_aload_n (pc := 190) d_X2_goThrough_190 rfl ?_
    refine zv_iload (pc := 191) d_X2_goThrough_191 rfl ?_
    obtain ⟨I23, eI23, hf⟩ := zw_letE hf
    refine zx_putI (pc := 193) (I2 := I23) d_X2_goThrough_193 lk_CutStones_Light_40 rfl g10 eI23 ?_
    refine zv_goto (pc := 196) (tg := 213) d_X2_goThrough_196 (by decide) ?_
    cases hf
    exact zx_vret (pc := 213) d_X2_goThrough_213 rfl hk
def f_X2_goThrough (v0 : Nat) (v1 : Nat) (I : zI) (R : zR) : Option (zI) :=
  zw_g (zw_gc v0 2) (zw_g (zw_gc v1 0) ((f_X0_cellAt v1 (I v0 8) (I v0 9) I R).bind fun q3 => (zw_g (zw_gc (R v0 0) 13) (zw_g (zw_in (I v0 1) (zw_SH (R v0 0)).2) (zw_let (zw_u I (R v0 0) (Int32.toNatClampNeg (I v0 1)) ((12 * (I v0 9)) + (I v0 8)) : zI) fun I6 => (zw_let (zw_u I6 v0 1 ((I6 v0 1) + 1) : zI) fun I7 => (if ¬ q3 = 6 then if 4 < q3 then j_X2_goThrough_128 v0 v1 I7 R else (f_X2_goOut v0 (I7 v0 6) I7 R).bind fun q24 => (zw_g (zw_in q3 (zw_sl 3).length) (zw_let (zw_u q24 v0 10 ((((zw_sl 3).getD (Int32.toNatClampNeg q3) 0) - ((q24 v0 10) ^^^ 2)) &&& 3) : zI) fun I26 => (j_X2_goThrough_128 v0 v1 I26 R))) else zw_let ((((I7 v0 11) * (I7 v0 7)) / 1000) : Int32) fun x27 => (zw_g (zw_gc (R v0 2) 13) (zw_g (zw_in 5 (zw_SH (R v0 2)).2) (zw_g (zw_in 5 (zw_SH (R v0 2)).2) (zw_let (zw_u I7 (R v0 2) (Int32.toNatClampNeg 5) ((I7 (R v0 2) (Int32.toNatClampNeg 5)) + x27) : zI) fun I31 => (zw_let (zw_u I31 v0 11 ((I31 v0 11) - x27) : zI) fun I32 => (zw_let (zw_u I32 v0 4 ((I32 v0 4) + 1) : zI) fun I33 => (j_X2_goThrough_128 v0 v1 I33 R))))))))))))))
theorem c_X2_goThrough (X : zw_X) (v0 : Nat) (v1 : Nat) (I : zI) (R : zR) (J : zJ) {P : Option Value → aS → Prop} (o : zI) (hf : f_X2_goThrough v0 v1 I R = some o) (hk : P none (o, R, J)) : zw_C X M_X2_goThrough 1 0 0 199 [.ref v0, .ref v1] (I, R, J) P := by
  show zy_V X M_X2_goThrough 1 P 0 [.ref v0, .ref v1, .null, .null, .null, .null] [] (I, R, J)
  unfold f_X2_goThrough at hf
  refine zv_aload_n (pc := 0) d_X2_goThrough_0 rfl ?_
  refine zv_aload_n (pc := 1) d_X2_goThrough_1 rfl ?_
  obtain ⟨g1, hf⟩ := zw_gcE hf (by decide)
  refine zx_getI (pc := 2) d_X2_goThrough_2 lk_CutStones_Light_37 (by decide) g1 ?_
  refine zv_aload_n (pc := 5) d_X2_goThrough_5 rfl ?_
  refine zx_getI (pc := 6) d_X2_goThrough_6 lk_CutStones_Light_40 (by decide) g1 ?_
  obtain ⟨g2, hf⟩ := zw_gcE hf (by decide)
  obtain ⟨q3, hq3, hf⟩ := zw_bdE hf
  refine zx_callV (pc := 9) (As := [.int (I v0 8), .int (I v0 9)]) (o := v1) (st := []) (d2 := 0) (M2 := M_X0_cellAt) (P2 := (fun r S => r = (some (.int q3)) ∧ S = (I, R, J))) d_X2_goThrough_9 (zw_mG (List.mem_of_getElem? (i := 905) (by decide +kernel)) rfl) ce_X0_cellAt (zw_RvK g2 rfl rfl) (Nat.le_of_ble_eq_true rfl) rfl (Nat.le_of_ble_eq_true rfl) (by decide) (c_X0_cellAt X v1 (I v0 8) (I v0 9) I R J _ hq3 ⟨rfl, rfl⟩) ?_
  rintro _ _ ⟨rfl, rfl⟩
  show zy_V X M_X2_goThrough 1 P (9 + 3) [.ref v0, .ref v1, .null, .null, .null, .null] [.int q3] (I, R, J)
  refine zx_istore_n (pc := 12) (x2 := q3) (L2 := [.ref v0, .ref v1, .int q3, .null, .null, .null]) d_X2_goThrough_12 (by decide) rfl rfl ?_
  refine zv_aload_n (pc := 13) d_X2_goThrough_13 rfl ?_
  obtain ⟨g4, hf⟩ := zw_gcE hf (by decide)
  refine zx_getR (pc := 14) d_X2_goThrough_14 lk_CutStones_Light_9 (by decide) g1 g4 ?_
  refine zv_aload_n (pc := 17) d_X2_goThrough_17 rfl ?_
  refine zx_getI (pc := 18) d_X2_goThrough_18 lk_CutStones_Light_15 (by decide) g1 ?_
  refine zv_bipush (pc := 21) d_X2_goThrough_21 zc_b_12 ?_
  refine zv_aload_n (pc := 23) d_X2_goThrough_23 rfl ?_
  refine zx_getI (pc := 24) d_X2_goThrough_24 lk_CutStones_Light_40 (by decide) g1 ?_
  refine zv_imul (pc := 27) d_X2_goThrough_27 ?_
  refine zv_aload_n (pc := 28) d_X2_goThrough_28 rfl ?_
  refine zx_getI (pc := 29) d_X2_goThrough_29 lk_CutStones_Light_37 (by decide) g1 ?_
  refine zv_iadd (pc := 32) d_X2_goThrough_32 ?_
  obtain ⟨i5, hf⟩ := zw_inE hf
  obtain ⟨I6, eI6, hf⟩ := zw_letE hf
  refine zx_iast (pc := 33) (I2 := I6) d_X2_goThrough_33 g4 i5 eI6 ?_
  refine zv_aload_n (pc := 34) d_X2_goThrough_34 rfl ?_
  refine zv_dup (pc := 35) d_X2_goThrough_35 rfl ?_
  refine zx_getI (pc := 36) d_X2_goThrough_36 lk_CutStones_Light_15 (by decide) g1 ?_
  refine zv_iconst (pc := 39) d_X2_goThrough_39 zc_i_1 ?_
  refine zv_iadd (pc := 40) d_X2_goThrough_40 ?_
  obtain ⟨I7, eI7, hf⟩ := zw_letE hf
  refine zx_putI (pc := 41) (I2 := I7) d_X2_goThrough_41 lk_CutStones_Light_15 rfl g1 eI7 ?_
  refine zv_iload_n (pc := 44) d_X2_goThrough_44 rfl ?_
  refine zv_bipush (pc := 45) d_X2_goThrough_45 zc_b_6 ?_
  rcases zw_ifE hf with ⟨c8, hf⟩ | ⟨c8, hf⟩
  · refine zv_icmp_ne (pc := 47) (tg := 97) d_X2_goThrough_47 (by decide) (fun _ => ?_) (fun q => absurd q c8)
    refine zv_iload_n (pc := 97) d_X2_goThrough_97 rfl ?_
    refine zv_iconst (pc := 98) d_X2_goThrough_98 zc_i_4 ?_
    rcases zw_ifE hf with ⟨c9, hf⟩ | ⟨c9, hf⟩
    · refine zv_icmp_gt (pc := 99) (tg := 128) d_X2_goThrough_99 (by decide) (fun _ => ?_) (fun q => absurd c9 q)
      exact zx_weak (zw_leS (zw_leS (zw_leN (zw_leN (zw_leN (zw_leN zw_leZ)))))) (j_X2_goThrough_128_ok X P v0 v1 I7 R J _ hf hk)
    · refine zv_icmp_gt (pc := 99) (tg := 128) d_X2_goThrough_99 (by decide) (fun q => absurd q c9) (fun _ => ?_)
      refine zv_aload_n (pc := 102) d_X2_goThrough_102 rfl ?_
      refine zv_aload_n (pc := 103) d_X2_goThrough_103 rfl ?_
      refine zx_getI (pc := 104) d_X2_goThrough_104 lk_CutStones_Light_31 (by decide) g1 ?_
      obtain ⟨q24, hq24, hf⟩ := zw_bdE hf
      refine zx_callV (pc := 107) (As := [.int (I7 v0 6)]) (o := v0) (st := []) (d2 := 0) (M2 := M_X2_goOut) (P2 := (fun r S => r = none ∧ S = (q24, R, J))) d_X2_goThrough_107 (zw_mG (List.mem_of_getElem? (i := 916) (by decide +kernel)) rfl) ce_X2_goOut (zw_RvK g1 rfl rfl) (Nat.le_of_ble_eq_true rfl) rfl (Nat.le_of_ble_eq_true rfl) (by decide) (c_X2_goOut X v0 (I7 v0 6) I7 R J _ hq24 ⟨rfl, rfl⟩) ?_
      rintro _ _ ⟨rfl, rfl⟩
      show zy_V X M_X2_goThrough 1 P (107 + 3) [.ref v0, .ref v1, .int q3, .null, .null, .null] [] (q24, R, J)
      refine zv_aload_n (pc := 110) d_X2_goThrough_110 rfl ?_
      refine zv_gets (pc := 111) (a := 3) d_X2_goThrough_111 (by decide) (by decide +kernel) ?_
      refine zv_iload_n (pc := 114) d_X2_goThrough_114 rfl ?_
      obtain ⟨i25, hf⟩ := zw_inE hf
      refine zv_tald (pc := 115) d_X2_goThrough_115 (by decide) i25 ?_
      refine zv_aload_n (pc := 116) d_X2_goThrough_116 rfl ?_
      refine zx_getI (pc := 117) d_X2_goThrough_117 lk_CutStones_Light_43 (by decide) g1 ?_
      refine zv_iconst (pc := 120) d_X2_goThrough_120 zc_i_2 ?_
      refine zv_ixor (pc := 121) d_X2_goThrough_121 ?_
      refine zv_isub (pc := 122) d_X2_goThrough_122 ?_
      refine zv_iconst (pc := 123) d_X2_goThrough_123 zc_i_3 ?_
      refine zv_iand (pc := 124) d_X2_goThrough_124 ?_
      obtain ⟨I26, eI26, hf⟩ := zw_letE hf
      refine zx_putI (pc := 125) (I2 := I26) d_X2_goThrough_125 lk_CutStones_Light_43 rfl g1 eI26 ?_
      exact zx_weak (zw_leS (zw_leS (zw_leN (zw_leN (zw_leN (zw_leN zw_leZ)))))) (j_X2_goThrough_128_ok X P v0 v1 I26 R J _ hf hk)
  · refine zv_icmp_ne (pc := 47) (tg := 97) d_X2_goThrough_47 (by decide) (fun q => absurd q c8) (fun _ => ?_)
    refine zv_aload_n (pc := 50) d_X2_goThrough_50 rfl ?_
    refine zx_getI (pc := 51) d_X2_goThrough_51 lk_CutStones_Light_46 (by decide) g1 ?_
    refine zv_aload_n (pc := 54) d_X2_goThrough_54 rfl ?_
    refine zx_getI (pc := 55) d_X2_goThrough_55 lk_CutStones_Light_34 (by decide) g1 ?_
    refine zv_imul (pc := 58) d_X2_goThrough_58 ?_
    refine zv_sipush (pc := 59) d_X2_goThrough_59 zc_s_1000 ?_
    refine zv_idiv (pc := 62) d_X2_goThrough_62 (by decide +kernel) ?_
    obtain ⟨x27, ex27, hf⟩ := zw_letE hf
    refine zx_istore_n (pc := 63) (x2 := x27) (L2 := [.ref v0, .ref v1, .int q3, .int x27, .null, .null]) d_X2_goThrough_63 (by decide) ex27 rfl ?_
    refine zv_aload_n (pc := 64) d_X2_goThrough_64 rfl ?_
    obtain ⟨g28, hf⟩ := zw_gcE hf (by decide)
    refine zx_getR (pc := 65) d_X2_goThrough_65 lk_CutStones_Light_19 (by decide) g1 g28 ?_
    refine zv_iconst (pc := 68) d_X2_goThrough_68 zc_i_5 ?_
    refine zv_dup2 (pc := 69) d_X2_goThrough_69 rfl rfl ?_
    obtain ⟨i29, hf⟩ := zw_inE hf
    refine zx_iald (pc := 70) d_X2_goThrough_70 g28 i29 ?_
    refine zv_iload_n (pc := 71) d_X2_goThrough_71 rfl ?_
    refine zv_iadd (pc := 72) d_X2_goThrough_72 ?_
    obtain ⟨i30, hf⟩ := zw_inE hf
    obtain ⟨I31, eI31, hf⟩ := zw_letE hf
    refine zx_iast (pc := 73) (I2 := I31) d_X2_goThrough_73 g28 i30 eI31 ?_
    refine zv_aload_n (pc := 74) d_X2_goThrough_74 rfl ?_
    refine zv_dup (pc := 75) d_X2_goThrough_75 rfl ?_
    refine zx_getI (pc := 76) d_X2_goThrough_76 lk_CutStones_Light_46 (by decide) g1 ?_
    refine zv_iload_n (pc := 79) d_X2_goThrough_79 rfl ?_
    refine zv_isub (pc := 80) d_X2_goThrough_80 ?_
    obtain ⟨I32, eI32, hf⟩ := zw_letE hf
    refine zx_putI (pc := 81) (I2 := I32) d_X2_goThrough_81 lk_CutStones_Light_46 rfl g1 eI32 ?_
    refine zv_aload_n (pc := 84) d_X2_goThrough_84 rfl ?_
    refine zv_dup (pc := 85) d_X2_goThrough_85 rfl ?_
    refine zx_getI (pc := 86) d_X2_goThrough_86 lk_CutStones_Light_25 (by decide) g1 ?_
    refine zv_iconst (pc := 89) d_X2_goThrough_89 zc_i_1 ?_
    refine zv_iadd (pc := 90) d_X2_goThrough_90 ?_
    obtain ⟨I33, eI33, hf⟩ := zw_letE hf
    refine zx_putI (pc := 91) (I2 := I33) d_X2_goThrough_91 lk_CutStones_Light_25 rfl g1 eI33 ?_
    refine zv_goto (pc := 94) (tg := 128) d_X2_goThrough_94 (by decide) ?_
    exact zx_weak (zw_leS (zw_leS (zw_leN (zw_leN (zw_leN (zw_leN zw_leZ)))))) (j_X2_goThrough_128_ok X P v0 v1 I33 R J _ hf hk)
abbrev M_X3_takeName : zw_M := (⟨"CutStones$Reader", "takeName", "(LCutStones$Tape;)V"⟩, prog_5_method_7_code, 5, (Option.none : Option Jvm.ClassFile.FieldType))
theorem d_X3_takeName_0 : decode M_X3_takeName.2.1 0 = .ok (.aload_n 1, 1) := by decide +kernel
theorem d_X3_takeName_1 : decode M_X3_takeName.2.1 1 = .ok (.getfield 59, 3) := by decide +kernel
theorem d_X3_takeName_4 : decode M_X3_takeName.2.1 4 = .ok (.aload_n 0, 1) := by decide +kernel
theorem d_X3_takeName_5 : decode M_X3_takeName.2.1 5 = .ok (.getfield 25, 3) := by decide +kernel
theorem d_X3_takeName_8 : decode M_X3_takeName.2.1 8 = .ok (.iaload, 1) := by decide +kernel
theorem d_X3_takeName_9 : decode M_X3_takeName.2.1 9 = .ok (.istore_n 2, 1) := by decide +kernel
theorem d_X3_takeName_10 : decode M_X3_takeName.2.1 10 = .ok (.aload_n 1, 1) := by decide +kernel
theorem d_X3_takeName_11 : decode M_X3_takeName.2.1 11 = .ok (.getfield 62, 3) := by decide +kernel
theorem d_X3_takeName_14 : decode M_X3_takeName.2.1 14 = .ok (.aload_n 0, 1) := by decide +kernel
theorem d_X3_takeName_15 : decode M_X3_takeName.2.1 15 = .ok (.getfield 25, 3) := by decide +kernel
theorem d_X3_takeName_18 : decode M_X3_takeName.2.1 18 = .ok (.laload, 1) := by decide +kernel
theorem d_X3_takeName_19 : decode M_X3_takeName.2.1 19 = .ok (.lstore_n 3, 1) := by decide +kernel
theorem d_X3_takeName_20 : decode M_X3_takeName.2.1 20 = .ok (.aload_n 0, 1) := by decide +kernel
theorem d_X3_takeName_21 : decode M_X3_takeName.2.1 21 = .ok (.aload_n 1, 1) := by decide +kernel
theorem d_X3_takeName_22 : decode M_X3_takeName.2.1 22 = .ok (.iconst 2, 1) := by decide +kernel
theorem d_X3_takeName_23 : decode M_X3_takeName.2.1 23 = .ok (.iconst 1, 1) := by decide +kernel
theorem d_X3_takeName_24 : decode M_X3_takeName.2.1 24 = .ok (.invokevirtual 66, 3) := by decide +kernel
theorem d_X3_takeName_27 : decode M_X3_takeName.2.1 27 = .ok (.ifCond .eq 20, 3) := by decide +kernel
theorem d_X3_takeName_30 : decode M_X3_takeName.2.1 30 = .ok (.aload_n 0, 1) := by decide +kernel
theorem d_X3_takeName_31 : decode M_X3_takeName.2.1 31 = .ok (.getfield 21, 3) := by decide +kernel
theorem d_X3_takeName_34 : decode M_X3_takeName.2.1 34 = .ok (.lload_n 3, 1) := by decide +kernel
theorem d_X3_takeName_35 : decode M_X3_takeName.2.1 35 = .ok (.invokevirtual 70, 3) := by decide +kernel
theorem d_X3_takeName_38 : decode M_X3_takeName.2.1 38 = .ok (.ifCond .ne 9, 3) := by decide +kernel
theorem d_X3_takeName_41 : decode M_X3_takeName.2.1 41 = .ok (.aload_n 0, 1) := by decide +kernel
theorem d_X3_takeName_42 : decode M_X3_takeName.2.1 42 = .ok (.iconst 3, 1) := by decide +kernel
theorem d_X3_takeName_43 : decode M_X3_takeName.2.1 43 = .ok (.iload_n 2, 1) := by decide +kernel
theorem d_X3_takeName_44 : decode M_X3_takeName.2.1 44 = .ok (.invokevirtual 74, 3) := by decide +kernel
theorem d_X3_takeName_47 : decode M_X3_takeName.2.1 47 = .ok (.return_, 1) := by decide +kernel
theorem ce_X3_takeName : zw_CeV M_X3_takeName 1 := ⟨⟨⟨by decide +kernel, by decide +kernel, by decide +kernel⟩, (zw_mG (List.mem_of_getElem? (i := 726) (by decide +kernel)) rfl), (zw_mG (List.mem_of_getElem? (i := 98) (by decide +kernel)) rfl), by decide, by decide +kernel⟩, (zw_mG (List.mem_of_getElem? (i := 725) (by decide +kernel)) rfl), (zw_mG (List.mem_of_getElem? (i := 9) (by decide +kernel)) rfl)⟩
def f_X3_takeName (v0 : Nat) (v1 : Nat) (I : zI) (R : zR) (J : zJ) : Option (zI × zJ) :=
  zw_g (zw_gc v1 8) (zw_g (zw_gc (R v1 3) 13) (zw_g (zw_gc v0 3) (zw_g (zw_in (I v0 3) (zw_SH (R v1 3)).2) (zw_let ((I (R v1 3) (Int32.toNatClampNeg (I v0 3))) : Int32) fun x5 => (zw_g (zw_gc (R v1 4) 14) (zw_g (zw_in (I v0 3) (zw_SH (R v1 4)).2) (zw_let ((J (R v1 4) (Int32.toNatClampNeg (I v0 3))) : Int64) fun x8 => ((f_X3_take v0 v1 2 1 I R).bind fun q9 => (if q9.1 = 0 then some (q9.2, J) else zw_g (zw_gc (R v0 2) 1) ((f_X1_addName (R v0 2) x8 q9.2 R J).bind fun q12 => (if ¬ q12.1 = 0 then some (q12.2.1, q12.2.2) else (f_X3_noteLater v0 3 x5 q12.2.1).bind fun q14 => (some (q14, q12.2.2)))))))))))))
theorem c_X3_takeName (X : zw_X) (v0 : Nat) (v1 : Nat) (I : zI) (R : zR) (J : zJ) {P : Option Value → aS → Prop} (o : zI × zJ) (hf : f_X3_takeName v0 v1 I R J = some o) (hk : P none (o.1, R, o.2)) : zw_C X M_X3_takeName 1 0 0 199 [.ref v0, .ref v1] (I, R, J) P := by
  show zy_V X M_X3_takeName 1 P 0 [.ref v0, .ref v1, .null, .null, .null] [] (I, R, J)
  unfold f_X3_takeName at hf
  refine zv_aload_n (pc := 0) d_X3_takeName_0 rfl ?_
  obtain ⟨g1, hf⟩ := zw_gcE hf (by decide)
  obtain ⟨g2, hf⟩ := zw_gcE hf (by decide)
  refine zx_getR (pc := 1) d_X3_takeName_1 lk_CutStones_Reader_59 (by decide) g1 g2 ?_
  refine zv_aload_n (pc := 4) d_X3_takeName_4 rfl ?_
  obtain ⟨g3, hf⟩ := zw_gcE hf (by decide)
  refine zx_getI (pc := 5) d_X3_takeName_5 lk_CutStones_Reader_25 (by decide) g3 ?_
  obtain ⟨i4, hf⟩ := zw_inE hf
  refine zx_iald (pc := 8) d_X3_takeName_8 g2 i4 ?_
  obtain ⟨x5, ex5, hf⟩ := zw_letE hf
  refine zx_istore_n (pc := 9) (x2 := x5) (L2 := [.ref v0, .ref v1, .int x5, .null, .null]) d_X3_takeName_9 (by decide) ex5 rfl ?_
  refine zv_aload_n (pc := 10) d_X3_takeName_10 rfl ?_
  obtain ⟨g6, hf⟩ := zw_gcE hf (by decide)
  refine zx_getR (pc := 11) d_X3_takeName_11 lk_CutStones_Reader_62 (by decide) g1 g6 ?_
  refine zv_aload_n (pc := 14) d_X3_takeName_14 rfl ?_
  refine zx_getI (pc := 15) d_X3_takeName_15 lk_CutStones_Reader_25 (by decide) g3 ?_
  obtain ⟨i7, hf⟩ := zw_inE hf
  refine zx_lald (pc := 18) d_X3_takeName_18 g6 i7 ?_
  obtain ⟨x8, ex8, hf⟩ := zw_letE hf
  refine zx_lstore_n (pc := 19) (x2 := x8) (L2 := [.ref v0, .ref v1, .int x5, .long x8, .null]) d_X3_takeName_19 (by decide) ex8 rfl ?_
  refine zv_aload_n (pc := 20) d_X3_takeName_20 rfl ?_
  refine zv_aload_n (pc := 21) d_X3_takeName_21 rfl ?_
  refine zv_iconst (pc := 22) d_X3_takeName_22 zc_i_2 ?_
  refine zv_iconst (pc := 23) d_X3_takeName_23 zc_i_1 ?_
  obtain ⟨q9, hq9, hf⟩ := zw_bdE hf
  refine zx_callV (pc := 24) (As := [.ref v1, .int 2, .int 1]) (o := v0) (st := []) (d2 := 0) (M2 := M_X3_take) (P2 := (fun r S => r = (some (.int q9.1)) ∧ S = (q9.2, R, J))) d_X3_takeName_24 (zw_mG (List.mem_of_getElem? (i := 707) (by decide +kernel)) rfl) ce_X3_take (zw_RvK g3 rfl rfl) (Nat.le_of_ble_eq_true rfl) rfl (Nat.le_of_ble_eq_true rfl) (by decide) (c_X3_take X v0 v1 2 1 I R J _ hq9 ⟨rfl, rfl⟩) ?_
  rintro _ _ ⟨rfl, rfl⟩
  show zy_V X M_X3_takeName 1 P (24 + 3) [.ref v0, .ref v1, .int x5, .long x8, .null] [.int q9.1] (q9.2, R, J)
  rcases zw_ifE hf with ⟨c10, hf⟩ | ⟨c10, hf⟩
  · refine zv_if_eq (pc := 27) (tg := 47) d_X3_takeName_27 (by decide) (fun _ => ?_) (fun q => absurd c10 q)
    cases hf
    exact zx_vret (pc := 47) d_X3_takeName_47 rfl hk
  · refine zv_if_eq (pc := 27) (tg := 47) d_X3_takeName_27 (by decide) (fun q => absurd q c10) (fun _ => ?_)
    refine zv_aload_n (pc := 30) d_X3_takeName_30 rfl ?_
    obtain ⟨g11, hf⟩ := zw_gcE hf (by decide)
    refine zx_getR (pc := 31) d_X3_takeName_31 lk_CutStones_Reader_21 (by decide) g3 g11 ?_
    refine zv_lload_n (pc := 34) d_X3_takeName_34 rfl ?_
    obtain ⟨q12, hq12, hf⟩ := zw_bdE hf
    refine zx_callV (pc := 35) (As := [.long x8]) (o := (R v0 2)) (st := []) (d2 := 0) (M2 := M_X1_addName) (P2 := (fun r S => r = (some (.int q12.1)) ∧ S = (q12.2.1, R, q12.2.2))) d_X3_takeName_35 (zw_mG (List.mem_of_getElem? (i := 727) (by decide +kernel)) rfl) ce_X1_addName (zw_RvK g11 rfl rfl) (Nat.le_of_ble_eq_true rfl) rfl (Nat.le_of_ble_eq_true rfl) (by decide) (c_X1_addName X (R v0 2) x8 q9.2 R J _ hq12 ⟨rfl, rfl⟩) ?_
    rintro _ _ ⟨rfl, rfl⟩
    show zy_V X M_X3_takeName 1 P (35 + 3) [.ref v0, .ref v1, .int x5, .long x8, .null] [.int q12.1] (q12.2.1, R, q12.2.2)
    rcases zw_ifE hf with ⟨c13, hf⟩ | ⟨c13, hf⟩
    · refine zv_if_ne (pc := 38) (tg := 47) d_X3_takeName_38 (by decide) (fun _ => ?_) (fun q => absurd q c13)
      cases hf
      exact zx_vret (pc := 47) d_X3_takeName_47 rfl hk
    · refine zv_if_ne (pc := 38) (tg := 47) d_X3_takeName_38 (by decide) (fun q => absurd q c13) (fun _ => ?_)
      refine zv_aload_n (pc := 41) d_X3_takeName_41 rfl ?_
      refine zv_iconst (pc := 42) d_X3_takeName_42 zc_i_3 ?_
      refine zv_iload_n (pc := 43) d_X3_takeName_43 rfl ?_
      obtain ⟨q14, hq14, hf⟩ := zw_bdE hf
      refine zx_callV (pc := 44) (As := [.int 3, .int x5]) (o := v0) (st := []) (d2 := 0) (M2 := M_X3_noteLater) (P2 := (fun r S => r = none ∧ S = (q14, R, q12.2.2))) d_X3_takeName_44 (zw_mG (List.mem_of_getElem? (i := 731) (by decide +kernel)) rfl) ce_X3_noteLater (zw_RvK g3 rfl rfl) (Nat.le_of_ble_eq_true rfl) rfl (Nat.le_of_ble_eq_true rfl) (by decide) (c_X3_noteLater X v0 3 x5 q12.2.1 R q12.2.2 _ hq14 ⟨rfl, rfl⟩) ?_
      rintro _ _ ⟨rfl, rfl⟩
      show zy_V X M_X3_takeName 1 P (44 + 3) [.ref v0, .ref v1, .int x5, .long x8, .null] [] (q14, R, q12.2.2)
      cases hf
      exact zx_vret (pc := 47) d_X3_takeName_47 rfl hk
