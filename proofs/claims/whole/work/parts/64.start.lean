/-! ===== the law from its entry: what was there before, the two constructors, the loop ===== -/
def R_law : String := "CutStonesLaw"
abbrev zs_flat : List Cond := flatC (Jvm.Cond.and given_1 narrow_1)
theorem zs_arr : ∀ i, i < 6 → Cond.arrayOf (.static "CutStones" (zw_sn i) "[I") .int ∈ zs_flat := by decide +kernel
theorem zs_len : ∀ i, i < 6 → Cond.eq (.length (.static "CutStones" (zw_sn i) "[I")) (.int (Int32.ofNat (zw_sl i).length)) ∈ zs_flat := by decide +kernel
theorem zs_el : ∀ i, i < 6 → ∀ j, j < (zw_sl i).length → Cond.eq (.elem (.static "CutStones" (zw_sn i) "[I") (.int (Int32.ofNat j))) (.int ((zw_sl i).getD j 0)) ∈ zs_flat := by decide +kernel
theorem zs_lay : ∀ i, i < 6 → Cond.laysStatic "CutStones" (zw_sn i) "[I" ∈ lw_tbl := by decide +kernel
theorem zs_inC : Cond.initialized "CutStones" ∈ lw_tbl := by decide +kernel
theorem zs_ex : ∀ i, i < 3 → Cond.exactly (.string (zw_so i) (zw_si i)) "java/lang/String" ∈ zs_flat := by decide +kernel
theorem zs_co : ∀ i, i < 3 → Cond.eq (.field (.string (zw_so i) (zw_si i)) "java/lang/String" "coder" "B") (.int 0) ∈ zs_flat := by decide +kernel
theorem zs_ar : ∀ i, i < 3 → Cond.arrayOf (.field (.string (zw_so i) (zw_si i)) "java/lang/String" "value" "[B") .byte ∈ zs_flat := by decide +kernel
theorem zs_le : ∀ i, i < 3 → Cond.eq (.length (.field (.string (zw_so i) (zw_si i)) "java/lang/String" "value" "[B")) (.int (Int32.ofNat (zw_len.getD i 0))) ∈ zs_flat := by decide +kernel
theorem zs_be0 : (List.range 144).all (fun j => decide (zs_flat[67 + j]? = some (Cond.eq (.elem (.field (.string (zw_so 0) (zw_si 0)) "java/lang/String" "value" "[B") (.int (Int32.ofNat j))) (.int ((zw_byt.getD 0 []).getD j 0))))) = true := by decide +kernel
theorem zs_be1 : (List.range 7).all (fun j => decide (zs_flat[215 + j]? = some (Cond.eq (.elem (.field (.string (zw_so 1) (zw_si 1)) "java/lang/String" "value" "[B") (.int (Int32.ofNat j))) (.int ((zw_byt.getD 1 []).getD j 0))))) = true := by decide +kernel
theorem zs_be2 : (List.range 10).all (fun j => decide (zs_flat[227 + j]? = some (Cond.eq (.elem (.field (.string (zw_so 2) (zw_si 2)) "java/lang/String" "value" "[B") (.int (Int32.ofNat j))) (.int ((zw_byt.getD 2 []).getD j 0))))) = true := by decide +kernel
theorem zs_be : ∀ i, i < 3 → ∀ j, j < zw_len.getD i 0 → Cond.eq (.elem (.field (.string (zw_so i) (zw_si i)) "java/lang/String" "value" "[B") (.int (Int32.ofNat j))) (.int ((zw_byt.getD i []).getD j 0)) ∈ zs_flat := by
  intro i hi j hj
  match i, hi, hj with
  | 0, _, hj => exact List.mem_of_getElem? (of_decide_eq_true (List.all_eq_true.mp zs_be0 j (List.mem_range.mpr hj)))
  | 1, _, hj => exact List.mem_of_getElem? (of_decide_eq_true (List.all_eq_true.mp zs_be1 j (List.mem_range.mpr hj)))
  | 2, _, hj => exact List.mem_of_getElem? (of_decide_eq_true (List.all_eq_true.mp zs_be2 j (List.mem_range.mpr hj)))
theorem zs_ne : ∀ i, i < 3 → ∀ j, j < 3 → i ≠ j → Cond.not (Cond.eq (.string (zw_so i) (zw_si i)) (.string (zw_so j) (zw_si j))) ∈ zs_flat ∨ Cond.not (Cond.eq (.string (zw_so j) (zw_si j)) (.string (zw_so i) (zw_si i))) ∈ zs_flat := by decide +kernel
theorem zs_sr : ∀ i, i < 3 → Cond.stringRef (zw_so i) (zw_si i) (zw_stx i) ∈ lw_tbl := by decide +kernel
theorem zs_cs : Cond.eq (.static "java/lang/String" "COMPACT_STRINGS" "Z") (.int 1) ∈ zs_flat ∧ Cond.laysStatic "java/lang/String" "COMPACT_STRINGS" "Z" ∈ lw_tbl ∧ Cond.initialized "java/lang/String" ∈ lw_tbl := ⟨by decide +kernel, by decide +kernel, by decide +kernel⟩
theorem zs_fm : Cond.isRef (.static "jdk/internal/util/Preconditions" "SIOOBE_FORMATTER" "Ljava/util/function/BiFunction;") ∈ zs_flat ∧ Cond.laysStatic "jdk/internal/util/Preconditions" "SIOOBE_FORMATTER" "Ljava/util/function/BiFunction;" ∈ lw_tbl ∧ Cond.initialized "jdk/internal/util/Preconditions" ∈ lw_tbl := ⟨by decide +kernel, by decide +kernel, by decide +kernel⟩
theorem zs_in : ∀ c, c < 12 → ∀ r, zw_cl[c]? = some r → Cond.instantiable r.1 r.2.2 ∈ lw_tbl := by
  intro c hc r hr
  have h : zw_cl.all (fun r => decide (Cond.instantiable r.1 r.2.2 ∈ lw_tbl)) = true := by decide +kernel
  exact of_decide_eq_true (List.all_eq_true.mp h r (List.mem_of_getElem? hr))
theorem zs_ov : Cond.arrayOver (.object "CutStones$Drawing") ∈ lw_tbl ∧ Cond.arrayOver (.object "CutStones$Rule") ∈ lw_tbl ∧ Cond.arrayOver (.object "CutStones$Stuff") ∈ lw_tbl := ⟨by decide +kernel, by decide +kernel, by decide +kernel⟩
/-- a smaller room is enough -/
theorem zs_room {p : Program} {l : Launch} {e : Env} {R R' : Room} {s : State} {m : MethodId} {args : Array Value} {below : List Frame} {meth : Method} {c : Code} {H : Heap} {locs : List Loc} {cells slots : Nat} {Q Q' : State → Prop} {g : JFrame} (h1 : R'.frames ≤ R.frames) (h2 : R'.cells ≤ R.cells) (h3 : R'.slots ≤ R.slots) (h4 : R'.locals ≤ R.locals) (hQ : ∀ t, Q t → Q' t)
    (h : W p l e R' s m args below meth c H locs cells slots Q g) : W p l e R s m args below meth c H locs cells slots Q' g := by
  intro T hT X
  have hr : s.hasRoom e.platform R' = true := by
    have h := X.room
    simp only [State.hasRoom, Bool.and_eq_true, decide_eq_true_eq] at h ⊢
    obtain ⟨⟨⟨⟨a1, a2, a3, a4, a5, a6⟩, a7⟩, a8⟩, a9⟩ := h
    exact ⟨⟨⟨⟨by omega, by omega, by omega, by omega, by omega, a6⟩, by omega⟩, by omega⟩, a9⟩
  obtain ⟨t, b1, b2⟩ := h T hT { X with room := hr }
  exact ⟨t, b1, hQ t b2⟩
theorem zs_arrK {s : State} {ty : FieldType} {args : Array Value} (h : (Cond.arrayClass ty).before args s = true) (ht : ∀ C, ty ≠ .object C) : ∃ cA : ClassId, ArrOfT s cA ty ∧ va_RA s cA ty := by
  obtain ⟨c, k, comp, h1, h2, h3⟩ := Cond.arrayClass_spec h
  refine ⟨c, fun n z => ⟨fun k h => (by cases h), k, h2, comp, h3⟩, ?_⟩
  cases ty with
  | object C => exact absurd rfl (ht C)
  | _ => exact h1
theorem zs_arrO {s : State} {C : String} (h : va_AO C s) : ∃ cA : ClassId, ArrOfT s cA (.object C) ∧ va_RA s cA (.object C) := by
  obtain ⟨comp, c, k, h1, h2, h3, h4, h5⟩ := Cond.arrayOver_spec h
  exact ⟨c, fun n z => ⟨fun k h => (by cases h), k, h3, comp, h4⟩, k, comp, h3, h4, h1, h5⟩
abbrev zs_S0 : aS := (fun _ _ => 0, fun _ _ => 0, fun _ _ => 0)
/-- the state behind the two constructors -/
def zs_S1 : aS := kS_X11_init_148 (kS_X10_init_1 zs_S0)
theorem zs_eta (S : aS) : (S.1, S.2.1, S.2.2) = S := rfl
theorem zs_Z0 : zw_Z 1 zs_S0 := fun _ _ _ => ⟨rfl, rfl, rfl⟩
theorem zs_law {X : zw_X} {P : Option Value → aS → Prop} {Rel : aS → Prop} (hE : zE_All Rel) (h0 : Rel zs_S1) (hL : X.1 ≤ 4608) (hP : ∀ S, P (some (.int 1)) S) : zw_V X M_L_law 1300 199 25592 0 P 0 0 0 [.ref 1012, .null, .null, .null] [] zs_S0 := by
  have hZ : zw_Z 0 zs_S0 := fun _ _ _ => ⟨rfl, rfl, rfl⟩
  refine kx_new (pc := 0) (c := 10) d_L_law_0 rfl ⟨(zw_mG (List.mem_of_getElem? (i := 116) (by decide +kernel)) rfl), (zw_mG (List.mem_of_getElem? (i := 117) (by decide +kernel)) rfl), (zw_mG (List.mem_of_getElem? (i := 96) (by decide +kernel)) rfl)⟩ (by decide) rfl hZ ⟨by decide, by decide⟩ (by decide) (by decide +kernel) ?_
  have hZ := hZ.up
  refine zv_dup (pc := 3) d_L_law_3 rfl ?_
  refine zv_callI (pc := 4) (As := []) (o := 1) (st := [.ref 1]) (d2 := 4) (mc2 := 146) (ms2 := 10308) (M2 := M_X10_init) (R2 := fun r T => r = none ∧ T = kS_X10_init_1 zs_S0) d_L_law_4 (zw_mG (List.mem_of_getElem? (i := 118) (by decide +kernel)) rfl) ce_X10_init (Nat.le_of_ble_eq_true rfl) rfl (Nat.le_of_ble_eq_true rfl) (by decide) ⟨by decide, by decide⟩ (by decide) (k_X10_init_1 hZ ⟨rfl, rfl⟩) ?_
  rintro _ _ ⟨rfl, rfl⟩
  have hZ := kZ_X10_init_1 hZ
  show zw_V X M_L_law 1300 199 25592 0 P (4 + 3) 147 10321 [.ref 1012, .null, .null, .null] [.ref 1] (kS_X10_init_1 zs_S0)
  refine kx_astore_n (pc := 7) (L2 := [.ref 1012, .ref 1, .null, .null]) d_L_law_7 (by decide) rfl ?_
  refine kx_new (pc := 8) (c := 11) d_L_law_8 rfl ⟨(zw_mG (List.mem_of_getElem? (i := 1147) (by decide +kernel)) rfl), (zw_mG (List.mem_of_getElem? (i := 1148) (by decide +kernel)) rfl), (zw_mG (List.mem_of_getElem? (i := 108) (by decide +kernel)) rfl)⟩ (by decide) rfl hZ ⟨by decide, by decide⟩ (by decide) (by decide +kernel) ?_
  have hZ := hZ.up
  refine zv_dup (pc := 11) d_L_law_11 rfl ?_
  refine zv_callI (pc := 12) (As := []) (o := 148) (st := [.ref 148]) (d2 := 3) (mc2 := 51) (ms2 := 15191) (M2 := M_X11_init) (R2 := fun r T => r = none ∧ T = zs_S1) d_L_law_12 (zw_mG (List.mem_of_getElem? (i := 1149) (by decide +kernel)) rfl) ce_X11_init (Nat.le_of_ble_eq_true rfl) rfl (Nat.le_of_ble_eq_true rfl) (by decide) ⟨by decide, by decide⟩ (by decide) (k_X11_init_148 hZ ⟨rfl, rfl⟩) ?_
  rintro _ _ ⟨rfl, rfl⟩
  show zw_V X M_L_law 1300 199 25592 0 P (12 + 3) 199 25592 [.ref 1012, .ref 1, .null, .null] [.ref 148] zs_S1
  refine kx_astore_n (pc := 15) (L2 := [.ref 1012, .ref 1, .ref 148, .null]) d_L_law_15 (by decide) rfl ?_
  refine zv_iconst (pc := 16) d_L_law_16 zc_i_0 ?_
  refine kx_istore_n (pc := 17) (L2 := [.ref 1012, .ref 1, .ref 148, .int (nI 0)]) d_L_law_17 (by decide) (by rw [nI_0]; rfl) ?_
  have e1 : (zs_S1.1, zs_S1.2.1, zs_S1.2.2) = zs_S1 := zs_eta zs_S1
  have h1 := law_loop (X := X) (P := P) hE hL hP (X.1 + 1) 0 zs_S1.1 zs_S1.2.1 zs_S1.2.2 (by omega) (by omega) (by rw [e1]; exact h0)
  rw [e1] at h1
  exact h1
