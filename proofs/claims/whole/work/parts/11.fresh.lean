section
variable {X : zw_X} {M : zw_M} {d mc ms n0 : Nat} {R : Option Value → aS → Prop} {pc k ss : Nat} {L st : List Value} {S : aS}
theorem zw_ci : Cond.initialized "java/lang/Math" ∈ zw_TG := zw_mG (by decide +kernel) rfl
theorem zw_mx : Cond.static Lib.Math.max.name ∈ zw_TG ∧ Cond.code Lib.Math.max.name Lib.Math.max.code 2 (some .int) ∈ zw_TG := ⟨zw_mG (by decide +kernel) rfl, zw_mG (by decide +kernel) rfl⟩
theorem zw_mi : Cond.static Lib.Math.min.name ∈ zw_TG ∧ Cond.code Lib.Math.min.name Lib.Math.min.code 2 (some .int) ∈ zw_TG := ⟨zw_mG (by decide +kernel) rfl, zw_mG (by decide +kernel) rfl⟩
theorem zw_mb : Cond.static Lib.Math.abs.name ∈ zw_TG ∧ Cond.code Lib.Math.abs.name Lib.Math.abs.code 1 (some .int) ∈ zw_TG := ⟨zw_mG (by decide +kernel) rfl, zw_mG (by decide +kernel) rfl⟩
theorem zv_max {i : Nat} {x y : Int32} (hd : decode M.2.1 pc = .ok (.invokestatic i, 3)) (hw : Cond.methodLink M.1.cls i Lib.Math.max.name ∈ zw_TG) (hdd : 0 < d) (hst : (st.map fun v => v.category).sum ≤ 8) (hc : k ≤ mc ∧ ss ≤ ms) (h : zw_V X M d mc ms n0 R (pc + 3) k ss L (.int (if x < y then y else x) :: st) S) : zw_V X M d mc ms n0 R pc k ss L (.int y :: .int x :: st) S := by
  intro l p e s m args below meth c H locs B D ca ls hA
  have hts := zw_hts hA.2.1 args
  refine va_mmax (R := zw_rm d mc ms) hA.1.1 hA.1.2.1 (hA.1.2.2.1.trans hA.2.2.2.2.2.2.1.symm) hA.1.2.2.2.1 (hts _ hw) (hts _ zw_mx.1) (hts _ zw_ci) (hts _ zw_mx.2) hdd ?_ hc.1 hc.2 hd (h l p e s m args below meth c H locs B D ca ls hA)
  rw [zw_cats]
  show _ ≤ 64 * d
  omega
theorem zv_min {i : Nat} {x y : Int32} (hd : decode M.2.1 pc = .ok (.invokestatic i, 3)) (hw : Cond.methodLink M.1.cls i Lib.Math.min.name ∈ zw_TG) (hdd : 0 < d) (hst : (st.map fun v => v.category).sum ≤ 8) (hc : k ≤ mc ∧ ss ≤ ms) (h : zw_V X M d mc ms n0 R (pc + 3) k ss L (.int (if y < x then y else x) :: st) S) : zw_V X M d mc ms n0 R pc k ss L (.int y :: .int x :: st) S := by
  intro l p e s m args below meth c H locs B D ca ls hA
  have hts := zw_hts hA.2.1 args
  refine va_mmin (R := zw_rm d mc ms) hA.1.1 hA.1.2.1 (hA.1.2.2.1.trans hA.2.2.2.2.2.2.1.symm) hA.1.2.2.2.1 (hts _ hw) (hts _ zw_mi.1) (hts _ zw_ci) (hts _ zw_mi.2) hdd ?_ hc.1 hc.2 hd (h l p e s m args below meth c H locs B D ca ls hA)
  rw [zw_cats]
  show _ ≤ 64 * d
  omega
theorem zv_abs {i : Nat} {x : Int32} (hd : decode M.2.1 pc = .ok (.invokestatic i, 3)) (hw : Cond.methodLink M.1.cls i Lib.Math.abs.name ∈ zw_TG) (hdd : 0 < d) (hst : (st.map fun v => v.category).sum ≤ 8) (hc : k ≤ mc ∧ ss ≤ ms) (h : zw_V X M d mc ms n0 R (pc + 3) k ss L (.int (if 0 ≤ x then x else 0 - x) :: st) S) : zw_V X M d mc ms n0 R pc k ss L (.int x :: st) S := by
  intro l p e s m args below meth c H locs B D ca ls hA
  have hts := zw_hts hA.2.1 args
  refine va_mabs (R := zw_rm d mc ms) hA.1.1 hA.1.2.1 (hA.1.2.2.1.trans hA.2.2.2.2.2.2.1.symm) hA.1.2.2.2.1 (hts _ hw) (hts _ zw_mb.1) (hts _ zw_ci) (hts _ zw_mb.2) hdd ?_ hc.1 hc.2 hd (h l p e s m args below meth c H locs B D ca ls hA)
  rw [zw_cats]
  show _ ≤ 64 * d
  omega
theorem zw_oi : Cond.instanceMethod Lib.objectInit ∈ zw_TG ∧ Cond.code Lib.objectInit ⟨#[0xb1]⟩ 1 none ∈ zw_TG := ⟨zw_mG (by decide +kernel) rfl, zw_mG (by decide +kernel) rfl⟩
theorem zv_obj {i o : Nat} (hd : decode M.2.1 pc = .ok (.invokespecial i, 3)) (hw : Cond.methodLink M.1.cls i Lib.objectInit ∈ zw_TG) (hdd : 0 < d) (hst : (st.map fun v => v.category).sum ≤ 8) (h : zw_V X M d mc ms n0 R (pc + 3) k ss L st S) : zw_V X M d mc ms n0 R pc k ss L (.ref o :: st) S := by
  intro l p e s m args below meth c H locs B D ca ls hA
  have hts := zw_hts hA.2.1 args
  refine W.objInit hA.1.1 hA.1.2.1 hA.1.2.2.2.1 (hts _ hw) (hts _ zw_oi.1) (hts _ zw_oi.2) rfl (hA.2.2.2.2.2.2.1.trans hA.1.2.2.1.symm) rfl hd hdd ?_ (h l p e s m args below meth c H locs B D ca ls hA)
  have h1 := lv_room (m := m) (pc := pc) (ls := ls) (rest := (Value.ref o :: st).map (zw_cv B)) (st := st.map (zw_cv B)) (by rw [zw_cats]; exact hst)
  show _ ≤ 64 * d
  omega
/-- a new cell's address -/
theorem zw_new_ad {p : Program} {l : Launch} {e : Env} {s : State} {m : MethodId} {args : Array Value} {below : List Frame} {meth : Method} {c : Code} {H1 : Heap} {locs : List Loc} {B : zw_B} {D : va_G} {ca : Nat → ClassId} {R0 : Room} {Q : State → Prop} {q n ss2 : Nat} {ev : va_E} {g : JFrame} (hn : n + 1 < 1000) (hs : s.heap.size = B.1 + n0) (hn0 : n0 + k = n)
    (hP : va_P D zw_cl (zw_wl B ca n S ++ [(q, ev)]) H1) (hD : va_D (fun q => B.1 ≤ q) (zw_wl B ca n S ++ [(q, ev)]))
    (kk : q = zw_ad B (n + 1) → W p l e R0 s m args below meth c H1 locs (k + 1) ss2 Q g) : W p l e R0 s m args below meth c H1 locs (k + 1) ss2 Q g := by
  refine zw_sz fun hz => kk ?_
  have hlen : (zw_wl B ca n S).length = n := by simp [zw_wl]
  have hq : (zw_wl B ca n S ++ [(q, ev)])[n]? = some (q, ev) := by rw [List.getElem?_append_right (by omega), hlen, Nat.sub_self]; rfl
  have h1 : q < H1.size := (hP n _ hq).lt
  have h2 : B.1 ≤ q := hD.2 n _ hq
  rw [zw_ad_lt hn]
  by_cases h3 : q < B.1 + n
  · exfalso
    have h4 : (zw_wl B ca n S ++ [(q, ev)])[q - B.1]? = some (zw_ad B (q - B.1 + 1), zw_cel B ca S (q - B.1 + 1)) := by
      rw [List.getElem?_append_left (by omega)]
      have := zw_wl_get B ca S (o := q - B.1 + 1) (n := n) (by omega) (by omega)
      rwa [Nat.add_sub_cancel] at this
    have h5 := hD.1 _ _ _ _ h4 hq (by show zw_ad B (q - B.1 + 1) = q; rw [zw_ad_lt (by omega)]; omega)
    omega
  · omega
theorem zv_new {c i : Nat} {r : vw_C} (hd : decode M.2.1 pc = .ok (.new i, 3)) (hc : zw_cl[c]? = some r) (hw : Cond.classLink M.1.cls i r.1 ∈ zw_TG ∧ Cond.instantiable r.1 r.2.2 ∈ zw_TG ∧ Cond.initialized r.1 ∈ zw_TG) (hn : n0 + k + 1 < 1000) (hs : (zw_SH (n0 + k + 1)).1 = c) (hz : ∀ j, j < r.2.2 → zw_fv (0, fun _ => 0) S c (n0 + k + 1) j = defaultValue (zw_ty c j)) (hz2 : ∀ j, j < r.2.2 → S.2.1 (n0 + k + 1) j = 0) (hm : k + 1 ≤ mc ∧ ss + r.2.2 ≤ ms)
    (h : zw_V X M d mc ms n0 R (pc + 3) (k + 1) (ss + r.2.2) L (.ref (n0 + k + 1) :: st) S) : zw_V X M d mc ms n0 R pc k ss L st S := by
  intro l p e s m args below meth c0 H locs B D ca ls hA
  obtain ⟨q1, q2, q3, q4, q5, q6, q7⟩ := zw_Cls hc
  have hts := zw_hts hA.2.1 args
  have hA2 : ∀ q, s.heap.size ≤ q → (fun q => B.1 ≤ q) q := fun q hq => by have := hA.2.2.1; show B.1 ≤ q; omega
  refine va_new (ci := c) (fs := zw_fs B S c (n0 + k + 1)) (C := r.1) (T := r.2.1) (N := r.2.2) hA.1.1 hA.1.2.1 hts q4 (zw_ty c) q6 hA.1.2.2.2.1 (hts _ hw.1) (hts _ hw.2.1) (hts _ hw.2.2) hA.2.1.1 hA.2.2.2.2.1 (zw_wl_D B ca S hA.2.2.2.1.2) hA.2.2.2.2.2.1 hA2 hc (fun j hj => ?_) hm.1 hm.2 hd (fun q H1 hP hD hS => ?_)
  · have e1 : vp_V (zw_fs B S c (n0 + k + 1)) j = zw_fv B S c (n0 + k + 1) j := by
      unfold vp_V
      rw [List.getD_eq_getElem?_getD, zw_fs_get B S (by rw [← q3]; exact hj)]
      rfl
    have e2 := hz j hj
    have e3 := hz2 j hj
    rw [e1, ← e2]
    unfold zw_fv
    split
    · rw [e3]; rfl
    · rfl
  · refine zw_new_ad hn hA.2.2.1 rfl hP hD fun hq => ?_
    subst hq
    have e1 : zw_wl B ca (n0 + k) S ++ [(zw_ad B (n0 + k + 1), .inr (c, zw_fs B S c (n0 + k + 1)))] = zw_wl B ca (n0 + (k + 1)) S := by
      rw [show n0 + (k + 1) = (n0 + k) + 1 by omega, zw_wl_push, zw_cel_o B ca S (c := c) (N := (zw_SH (n0 + k + 1)).2) (by rw [← hs]) q1]
    rw [e1] at hP
    exact h l p e s m args below meth c0 H1 locs B D ca ls ⟨hA.1, hA.2.1, hA.2.2.1, ⟨by omega, by omega⟩, hP, hS, hA.2.2.2.2.2.2⟩
/-- a new array of ints, bytes, longs, booleans -/
def zw_at (a : ArrayType) : Nat := match a with
  | .byte => 12
  | .int => 13
  | .long => 14
  | .boolean => 15
  | _ => 99
theorem zw_ac : Cond.arrayClass .byte ∈ zw_TG ∧ Cond.arrayClass .int ∈ zw_TG ∧ Cond.arrayClass .long ∈ zw_TG ∧ Cond.arrayClass .boolean ∈ zw_TG := ⟨zw_mG (by decide +kernel) rfl, zw_mG (by decide +kernel) rfl, zw_mG (by decide +kernel) rfl, zw_mG (by decide +kernel) rfl⟩
theorem zv_newa {a : ArrayType} {z : Int32} {N : Nat} (hd : decode M.2.1 pc = .ok (.newarray a, 2)) (ha : a = .byte ∨ a = .int ∨ a = .long ∨ a = .boolean) (hz : ¬ z < 0) (hN : z.toNatClampNeg = N) (hb : N ≤ 5000) (hn : n0 + k + 1 < 1000) (hs : zw_SH (n0 + k + 1) = (zw_at a, N)) (h0 : ∀ j, S.1 (n0 + k + 1) j = 0) (h1 : ∀ j, S.2.2 (n0 + k + 1) j = 0) (hm : k + 1 ≤ mc ∧ ss + N ≤ ms)
    (h : zw_V X M d mc ms n0 R (pc + 2) (k + 1) (ss + N) L (.ref (n0 + k + 1) :: st) S) : zw_V X M d mc ms n0 R pc k ss L (.int z :: st) S := by
  intro l p e s m args below meth c0 H locs B D ca ls hA
  have hts := zw_hts hA.2.1 args
  have hA2 : ∀ q, s.heap.size ≤ q → (fun q => B.1 ≤ q) q := fun q hq => by have := hA.2.2.1; show B.1 ≤ q; omega
  have hK := hA.2.1.1.2
  have f0 : S.1 (n0 + k + 1) = fun _ => 0 := funext h0
  have f1 : S.2.2 (n0 + k + 1) = fun _ => 0 := funext h1
  have fin : ∀ (q : Nat) (ev : va_E) (H1 : Heap), zw_cel B ca S (n0 + k + 1) = ev → va_P D zw_cl (zw_wl B ca (n0 + k) S ++ [(q, ev)]) H1 → va_D (fun q => B.1 ≤ q) (zw_wl B ca (n0 + k) S ++ [(q, ev)]) → va_S (fun q => B.1 ≤ q) s.heap H1 locs → W p l e (zw_rm d mc ms) s m args below meth c0 H1 locs (k + 1) (ss + N) (MQ below (zw_QC X B D ca (n0 + mc) R) args s mc ms (fun q => B.1 ≤ q)) (F0 m (pc + 2) ls (.ref q :: st.map (zw_cv B))) := by
    intro q ev H1 hev hP hD hS
    refine zw_new_ad hn hA.2.2.1 rfl hP hD fun hq => ?_
    subst hq
    rw [← hev, ← zw_wl_push] at hP
    exact h l p e s m args below meth c0 H1 locs B D ca ls ⟨hA.1, hA.2.1, hA.2.2.1, ⟨by omega, by omega⟩, hP, hS, hA.2.2.2.2.2.2⟩
  rcases ha with rfl | rfl | rfl | rfl
  · refine va_newa (atype := .byte) (ty := .byte) (a0 := (N, .inl (fun _ => 0))) hA.1.1 hA.1.2.1 (hts _ zw_ac.1) rfl hA.2.1.1 hA.2.2.2.2.1 (zw_wl_D B ca S hA.2.2.2.1.2) hA.2.2.2.2.2.1 hA2 (fun cA => rfl) hz hN (by show N * 1 ≤ _; omega) hm.1 hm.2 hd (fun q cA H1 hK1 hP hD hS => ?_)
    have e1 : cA = ca 12 := Option.some.inj ((hK1.2 7 (cA, .byte) rfl).2.symm.trans (hK 0 (ca 12, .byte) rfl).2)
    subst e1
    exact fin q _ H1 (by rw [zw_cel_i B ca S (c := 12) hs (by decide), f0]) hP hD hS
  · refine va_newa (atype := .int) (ty := .int) (a0 := (N, .inl (fun _ => 0))) hA.1.1 hA.1.2.1 (hts _ zw_ac.2.1) rfl hA.2.1.1 hA.2.2.2.2.1 (zw_wl_D B ca S hA.2.2.2.1.2) hA.2.2.2.2.2.1 hA2 (fun cA => rfl) hz hN (by show N * 4 ≤ _; omega) hm.1 hm.2 hd (fun q cA H1 hK1 hP hD hS => ?_)
    have e1 : cA = ca 13 := Option.some.inj ((hK1.2 7 (cA, .int) rfl).2.symm.trans (hK 1 (ca 13, .int) rfl).2)
    subst e1
    exact fin q _ H1 (by rw [zw_cel_i B ca S (c := 13) hs (by decide), f0]) hP hD hS
  · refine va_newa (atype := .long) (ty := .long) (a0 := (N, .inr (.inl (fun _ => 0)))) hA.1.1 hA.1.2.1 (hts _ zw_ac.2.2.1) rfl hA.2.1.1 hA.2.2.2.2.1 (zw_wl_D B ca S hA.2.2.2.1.2) hA.2.2.2.2.2.1 hA2 (fun cA => rfl) hz hN (by show N * 8 ≤ _; omega) hm.1 hm.2 hd (fun q cA H1 hK1 hP hD hS => ?_)
    have e1 : cA = ca 14 := Option.some.inj ((hK1.2 7 (cA, .long) rfl).2.symm.trans (hK 2 (ca 14, .long) rfl).2)
    subst e1
    exact fin q _ H1 (by rw [zw_cel_l B ca S hs, f1]) hP hD hS
  · refine va_newa (atype := .boolean) (ty := .boolean) (a0 := (N, .inl (fun _ => 0))) hA.1.1 hA.1.2.1 (hts _ zw_ac.2.2.2) rfl hA.2.1.1 hA.2.2.2.2.1 (zw_wl_D B ca S hA.2.2.2.1.2) hA.2.2.2.2.2.1 hA2 (fun cA => rfl) hz hN (by show N * 1 ≤ _; omega) hm.1 hm.2 hd (fun q cA H1 hK1 hP hD hS => ?_)
    have e1 : cA = ca 15 := Option.some.inj ((hK1.2 7 (cA, .boolean) rfl).2.symm.trans (hK 3 (ca 15, .boolean) rfl).2)
    subst e1
    exact fin q _ H1 (by rw [zw_cel_i B ca S (c := 15) hs (by decide), f0]) hP hD hS
/-- a new array of references -/
theorem zv_anew {i κ : Nat} {z : Int32} {N : Nat} {C : String} (hd : decode M.2.1 pc = .ok (.anewarray i, 3)) (hw : Cond.classLink M.1.cls i C ∈ zw_TG) (hκ : (κ = 16 ∧ C = "CutStones$Drawing") ∨ (κ = 17 ∧ C = "CutStones$Rule") ∨ (κ = 18 ∧ C = "CutStones$Stuff")) (hz : ¬ z < 0) (hN : z.toNatClampNeg = N) (hb : N ≤ 5000) (hn : n0 + k + 1 < 1000) (hs : zw_SH (n0 + k + 1) = (κ, N)) (h0 : ∀ j, S.2.1 (n0 + k + 1) j = 0) (hm : k + 1 ≤ mc ∧ ss + N ≤ ms)
    (h : zw_V X M d mc ms n0 R (pc + 3) (k + 1) (ss + N) L (.ref (n0 + k + 1) :: st) S) : zw_V X M d mc ms n0 R pc k ss L (.int z :: st) S := by
  intro l p e s m args below meth c0 H locs B D ca ls hA
  have hts := zw_hts hA.2.1 args
  have hA2 : ∀ q, s.heap.size ≤ q → (fun q => B.1 ≤ q) q := fun q hq => by have := hA.2.2.1; show B.1 ≤ q; omega
  have hK := hA.2.1.1.2
  have hTK := hA.2.1.2.1.2.2
  have f0 : (fun j => zw_ro B (S.2.1 (n0 + k + 1) j)) = fun _ => none := funext fun j => by rw [h0 j]; rfl
  have fin : ∀ (q : Nat) (ev : va_E) (H1 : Heap), zw_cel B ca S (n0 + k + 1) = ev → va_P D zw_cl (zw_wl B ca (n0 + k) S ++ [(q, ev)]) H1 → va_D (fun q => B.1 ≤ q) (zw_wl B ca (n0 + k) S ++ [(q, ev)]) → va_S (fun q => B.1 ≤ q) s.heap H1 locs → W p l e (zw_rm d mc ms) s m args below meth c0 H1 locs (k + 1) (ss + N) (MQ below (zw_QC X B D ca (n0 + mc) R) args s mc ms (fun q => B.1 ≤ q)) (F0 m (pc + 3) ls (.ref q :: st.map (zw_cv B))) := by
    intro q ev H1 hev hP hD hS
    refine zw_new_ad hn hA.2.2.1 rfl hP hD fun hq => ?_
    subst hq
    rw [← hev, ← zw_wl_push] at hP
    exact h l p e s m args below meth c0 H1 locs B D ca ls ⟨hA.1, hA.2.1, hA.2.2.1, ⟨by omega, by omega⟩, hP, hS, hA.2.2.2.2.2.2⟩
  have same : ∀ (cA cB : ClassId) (C : String), va_RA s cA (.object C) → va_RA s cB (.object C) → cA = cB := fun cA cB C ha hb => by
    obtain ⟨_, _, -, -, -, h4⟩ := ha
    obtain ⟨_, _, -, -, -, h5⟩ := hb
    exact Option.some.inj (h4.symm.trans h5)
  rcases hκ with ⟨rfl, rfl⟩ | ⟨rfl, rfl⟩ | ⟨rfl, rfl⟩
  · refine va_newq hA.1.1 hA.1.2.1 hA.1.2.2.2.1 (hts _ hw) hTK.1 hA.2.1.1 hA.2.2.2.2.1 (zw_wl_D B ca S hA.2.2.2.1.2) hA.2.2.2.2.2.1 hA2 hz hN (by omega) hm.1 hm.2 hd (fun q cA H1 hK1 hP hD hS => ?_)
    have e1 : cA = ca 16 := same _ _ _ (hK1.2 7 (cA, .object "CutStones$Drawing") rfl).2 (hK 4 (ca 16, .object "CutStones$Drawing") rfl).2
    subst e1
    exact fin q _ H1 (by rw [zw_cel_r B ca S (c := 16) hs (by decide), f0]) hP hD hS
  · refine va_newq hA.1.1 hA.1.2.1 hA.1.2.2.2.1 (hts _ hw) hTK.2.1 hA.2.1.1 hA.2.2.2.2.1 (zw_wl_D B ca S hA.2.2.2.1.2) hA.2.2.2.2.2.1 hA2 hz hN (by omega) hm.1 hm.2 hd (fun q cA H1 hK1 hP hD hS => ?_)
    have e1 : cA = ca 17 := same _ _ _ (hK1.2 7 (cA, .object "CutStones$Rule") rfl).2 (hK 5 (ca 17, .object "CutStones$Rule") rfl).2
    subst e1
    exact fin q _ H1 (by rw [zw_cel_r B ca S (c := 17) hs (by decide), f0]) hP hD hS
  · refine va_newq hA.1.1 hA.1.2.1 hA.1.2.2.2.1 (hts _ hw) hTK.2.2 hA.2.1.1 hA.2.2.2.2.1 (zw_wl_D B ca S hA.2.2.2.1.2) hA.2.2.2.2.2.1 hA2 hz hN (by omega) hm.1 hm.2 hd (fun q cA H1 hK1 hP hD hS => ?_)
    have e1 : cA = ca 18 := same _ _ _ (hK1.2 7 (cA, .object "CutStones$Stuff") rfl).2 (hK 6 (ca 18, .object "CutStones$Stuff") rfl).2
    subst e1
    exact fin q _ H1 (by rw [zw_cel_r B ca S (c := 18) hs (by decide), f0]) hP hD hS
end
