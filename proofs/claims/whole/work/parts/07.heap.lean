/-! ===== instructions that read and write the heap ===== -/
section
variable {X : zw_X} {M : zw_M} {d mc ms n0 : Nat} {R : Option Value → aS → Prop} {pc k ss : Nat} {L st : List Value} {S : aS}
/-- what a class of the world is: its row of zw_cl, its words, its names, its types -/
def zw_Cl (c : Nat) (r : vw_C) : Prop := c < 12 ∧ zw_cl[c]? = some r ∧ r.2.2 = zw_NF c ∧ (∀ w ∈ u_ws r.1 r.2.1 r.2.2, w ∈ zw_TG) ∧ (∀ a, a < r.2.2 → ∀ b, b < r.2.2 → a ≠ b → (r.2.1 a).2.1 ≠ (r.2.1 b).2.1) ∧ (∀ j, j < r.2.2 → parseFieldDescriptor (r.2.1 j).2.2.1 = some (zw_ty c j)) ∧ ∀ j, (r.2.1 j).1 = r.1
theorem zw_Cl0 : zw_Cl 0 (RX0, TX0, 8) := ⟨by decide, rfl, rfl, zw_in0, nmX0, tyX0_ok, fun j => by unfold TX0; dsimp only; split <;> rfl⟩
theorem zw_Cl1 : zw_Cl 1 (RX1, TX1, 15) := ⟨by decide, rfl, rfl, zw_in1, nmX1, tyX1_ok, fun j => by unfold TX1; dsimp only; split <;> rfl⟩
theorem zw_Cl2 : zw_Cl 2 (RX2, TX2, 12) := ⟨by decide, rfl, rfl, zw_in2, nmX2, tyX2_ok, fun j => by unfold TX2; dsimp only; split <;> rfl⟩
theorem zw_Cl3 : zw_Cl 3 (RX3, TX3, 6) := ⟨by decide, rfl, rfl, zw_in3, nmX3, tyX3_ok, fun j => by unfold TX3; dsimp only; split <;> rfl⟩
theorem zw_Cl4 : zw_Cl 4 (RX4, TX4, 3) := ⟨by decide, rfl, rfl, zw_in4, nmX4, tyX4_ok, fun j => by unfold TX4; dsimp only; split <;> rfl⟩
theorem zw_Cl5 : zw_Cl 5 (RX5, TX5, 3) := ⟨by decide, rfl, rfl, zw_in5, nmX5, tyX5_ok, fun j => by unfold TX5; dsimp only; split <;> rfl⟩
theorem zw_Cl6 : zw_Cl 6 (RX6, TX6, 10) := ⟨by decide, rfl, rfl, zw_in6, nmX6, tyX6_ok, fun j => by unfold TX6; dsimp only; split <;> rfl⟩
theorem zw_Cl7 : zw_Cl 7 (RX7, TX7, 3) := ⟨by decide, rfl, rfl, zw_in7, nmX7, tyX7_ok, fun j => by unfold TX7; dsimp only; split <;> rfl⟩
theorem zw_Cl8 : zw_Cl 8 (RX8, TX8, 5) := ⟨by decide, rfl, rfl, zw_in8, nmX8, tyX8_ok, fun j => by unfold TX8; dsimp only; split <;> rfl⟩
theorem zw_Cl9 : zw_Cl 9 (RX9, TX9, 5) := ⟨by decide, rfl, rfl, zw_in9, nmX9, tyX9_ok, fun j => by unfold TX9; dsimp only; split <;> rfl⟩
theorem zw_Cl10 : zw_Cl 10 (RX10, TX10, 13) := ⟨by decide, rfl, rfl, zw_in10, nmX10, tyX10_ok, fun j => by unfold TX10; dsimp only; split <;> rfl⟩
theorem zw_Cl11 : zw_Cl 11 (RX11, TX11, 80) := ⟨by decide, rfl, rfl, zw_in11, nmX11, tyX11_ok, fun j => by unfold TX11; dsimp only; split <;> rfl⟩
theorem zw_Cls {c : Nat} {r : vw_C} (h : zw_cl[c]? = some r) : zw_Cl c r := by
  match c, h with
  | 0, h => cases h; exact zw_Cl0
  | 1, h => cases h; exact zw_Cl1
  | 2, h => cases h; exact zw_Cl2
  | 3, h => cases h; exact zw_Cl3
  | 4, h => cases h; exact zw_Cl4
  | 5, h => cases h; exact zw_Cl5
  | 6, h => cases h; exact zw_Cl6
  | 7, h => cases h; exact zw_Cl7
  | 8, h => cases h; exact zw_Cl8
  | 9, h => cases h; exact zw_Cl9
  | 10, h => cases h; exact zw_Cl10
  | 11, h => cases h; exact zw_Cl11
  | a + 12, h => simp [zw_cl] at h
theorem zw_hts {X : zw_X} {B : zw_B} {D : va_G} {ca : Nat → ClassId} {s : State} (h : zw_Amb X B D ca s) (args : Array Value) : ∀ w ∈ zw_TG, w.before args s = true := fun w hw => h.2.1.1 w hw args
/-- a field is read: its class c, its place j -/
theorem zv_get {o c j i : Nat} {r : vw_C} (hd : decode M.2.1 pc = .ok (.getfield i, 3)) (hc : zw_cl[c]? = some r) (hj : j < r.2.2) (hw : Cond.fieldLink M.1.cls i r.1 (r.2.1 j).2.1 (r.2.1 j).2.2.1 ∈ zw_TG) (ho : 1 ≤ o ∧ o ≤ n0 + k) (hs : (zw_SH o).1 = c) {v : Value} (hv : ∀ B : zw_B, zw_fv B S c o j = zw_cv B v)
    (h : zw_V X M d mc ms n0 R (pc + 3) k ss L (v :: st) S) : zw_V X M d mc ms n0 R pc k ss L (.ref o :: st) S := by
  intro l p e s m args below meth c0 H locs B D ca ls hA
  obtain ⟨h1, h2, h3, h4, h5, h6, h7⟩ := zw_Cls hc
  have he : (zw_wl B ca (n0 + k) S)[o - 1]? = some (zw_ad B o, .inr (c, zw_fs B S c o)) := (zw_wl_get B ca S ho.1 ho.2).trans (congrArg (fun e => some (zw_ad B o, e)) (zw_cel_o B ca S (N := (zw_SH o).2) (by rw [← hs]) h1))
  refine va_get (D := D) (cl := zw_cl) hA.1.1 hA.1.2.1 (zw_hts hA.2.1 args) h4 hA.1.2.2.2.1 hA.2.1.1 hA.2.2.2.2.1 (o - 1) he hc j hj (hA.2.1.2.1.1 _ hw args) (fun x hx => by rw [h7 j] at hx; exact hx) (v := zw_cv B v) ?_ hd ?_
  · rw [zw_fs_get B S (by rw [← h3]; exact hj), hv B]
  · exact h l p e s m args below meth c0 H locs B D ca ls hA
theorem zv_getI {o c j i : Nat} {r : vw_C} (hd : decode M.2.1 pc = .ok (.getfield i, 3)) (hc : zw_cl[c]? = some r) (hj : j < r.2.2) (hw : Cond.fieldLink M.1.cls i r.1 (r.2.1 j).2.1 (r.2.1 j).2.2.1 ∈ zw_TG) (hR : zw_isR c j = false) (ho : 1 ≤ o ∧ o ≤ n0 + k) (hs : (zw_SH o).1 = c)
    (h : zw_V X M d mc ms n0 R (pc + 3) k ss L (.int (S.1 o j) :: st) S) : zw_V X M d mc ms n0 R pc k ss L (.ref o :: st) S := zv_get hd hc hj hw ho hs (fun B => by simp [zw_fv, hR, zw_cv]) h
theorem zv_getR {o c j i : Nat} {r : vw_C} (hd : decode M.2.1 pc = .ok (.getfield i, 3)) (hc : zw_cl[c]? = some r) (hj : j < r.2.2) (hw : Cond.fieldLink M.1.cls i r.1 (r.2.1 j).2.1 (r.2.1 j).2.2.1 ∈ zw_TG) (hR : zw_isR c j = true) (ho : 1 ≤ o ∧ o ≤ n0 + k) (hs : (zw_SH o).1 = c) (hn : ¬ S.2.1 o j = 0)
    (h : zw_V X M d mc ms n0 R (pc + 3) k ss L (.ref (S.2.1 o j) :: st) S) : zw_V X M d mc ms n0 R pc k ss L (.ref o :: st) S := zv_get hd hc hj hw ho hs (fun B => by simp [zw_fv, hR, zw_cv, zw_ro, hn, va_rf]) h
/-- a field is written -/
theorem zv_put {o c j i : Nat} {r : vw_C} {v : Value} {S' : aS} (hd : decode M.2.1 pc = .ok (.putfield i, 3)) (hc : zw_cl[c]? = some r) (hj : j < r.2.2) (hw : Cond.fieldLink M.1.cls i r.1 (r.2.1 j).2.1 (r.2.1 j).2.2.1 ∈ zw_TG) (hf : (r.2.1 j).2.2.2 = false ∨ ((r.2.1 j).2.2.2 = true ∧ M.1.name = "<init>" ∧ r.1 = M.1.cls)) (ho : 1 ≤ o ∧ o ≤ n0 + k) (hs : (zw_SH o).1 = c)
    (hn : ∀ B : zw_B, narrow (zw_ty c j) (zw_cv B v) = zw_cv B v ∧ fits (zw_ty c j) (zw_cv B v) = true) (hv : ∀ B : zw_B, zw_fv B S' c o j = zw_cv B v) (h1 : ∀ B : zw_B, ∀ a, a ≠ j → zw_fv B S' c o a = zw_fv B S c o a) (h2 : ∀ a, a ≠ o → S'.1 a = S.1 a ∧ S'.2.1 a = S.2.1 a ∧ S'.2.2 a = S.2.2 a)
    (h : zw_V X M d mc ms n0 R (pc + 3) k ss L st S') : zw_V X M d mc ms n0 R pc k ss L (v :: .ref o :: st) S := by
  intro l p e s m args below meth c0 H locs B D ca ls hA
  obtain ⟨q1, q2, q3, q4, q5, q6, q7⟩ := zw_Cls hc
  have he : (zw_wl B ca (n0 + k) S)[o - 1]? = some (zw_ad B o, .inr (c, zw_fs B S c o)) := (zw_wl_get B ca S ho.1 ho.2).trans (congrArg (fun e => some (zw_ad B o, e)) (zw_cel_o B ca S (N := (zw_SH o).2) (by rw [← hs]) q1))
  have hset : (zw_wl B ca (n0 + k) S).set (o - 1) (zw_ad B o, .inr (c, (zw_fs B S c o).set j (zw_cv B v))) = zw_wl B ca (n0 + k) S' :=
    zw_wl_set B ca S S' ho.1 ho.2 (by rw [zw_cel_o B ca S' (N := (zw_SH o).2) (by rw [← hs]) q1, zw_fs_set B (by rw [← q3]; exact hj) (hv B) (h1 B)]) (fun a ha => zw_cel_off B ca (h2 a ha).1 (h2 a ha).2.1 (h2 a ha).2.2)
  have hl : j < (zw_fs B S c o).length := by rw [zw_fs_len, ← q3]; exact hj
  have kk : ∀ (H1 : Heap) (locs1 : List Loc), va_P D zw_cl ((zw_wl B ca (n0 + k) S).set (o - 1) (zw_ad B o, .inr (c, (zw_fs B S c o).set j (zw_cv B v)))) H1 → va_D (fun q => B.1 ≤ q) ((zw_wl B ca (n0 + k) S).set (o - 1) (zw_ad B o, .inr (c, (zw_fs B S c o).set j (zw_cv B v)))) → va_S (fun q => B.1 ≤ q) s.heap H1 locs1 → W p l e (zw_rm d mc ms) s m args below meth c0 H1 locs1 k ss (MQ below (zw_QC X B D ca (n0 + mc) R) args s mc ms (fun q => B.1 ≤ q)) (F0 m (pc + 3) ls (st.map (zw_cv B))) := by
    intro H1 locs1 hP hD hS
    rw [hset] at hP
    exact h l p e s m args below meth c0 H1 locs1 B D ca ls ⟨hA.1, hA.2.1, hA.2.2.1, hA.2.2.2.1, hP, hS, hA.2.2.2.2.2.2⟩
  rcases hf with hf | ⟨hf, hin, hown⟩
  · exact va_put (D := D) (cl := zw_cl) hA.1.1 hA.1.2.1 (zw_hts hA.2.1 args) q4 (zw_ty c) q6 q5 hA.1.2.2.2.1 hA.2.1.1 hA.2.2.2.2.1 (zw_wl_D B ca S hA.2.2.2.1.2) hA.2.2.2.2.2.1 (o - 1) he hc j hj (hA.2.1.2.1.1 _ hw args) (fun x hx => by rw [q7 j] at hx; exact hx) hf (q6 j hj) (hn B).1 (hn B).2 hl hd kk
  · exact va_putF (D := D) (cl := zw_cl) hA.1.1 hA.1.2.1 (zw_hts hA.2.1 args) q4 (zw_ty c) q6 q5 hA.1.2.2.2.1 hA.2.1.1 hA.2.2.2.2.1 (zw_wl_D B ca S hA.2.2.2.1.2) hA.2.2.2.2.2.1 (o - 1) he hc j hj (hA.2.1.2.1.1 _ hw args) (fun x hx => by rw [q7 j] at hx; exact hx) hf (hA.1.2.2.2.2.2.2 hin) ((q7 j).trans hown) (q6 j hj) (hn B).1 (hn B).2 hl hd kk
theorem zv_putI {o c j i : Nat} {r : vw_C} {v : Int32} (hd : decode M.2.1 pc = .ok (.putfield i, 3)) (hc : zw_cl[c]? = some r) (hj : j < r.2.2) (hw : Cond.fieldLink M.1.cls i r.1 (r.2.1 j).2.1 (r.2.1 j).2.2.1 ∈ zw_TG) (hf : (r.2.1 j).2.2.2 = false) (ht : zw_ty c j = .int ∨ (zw_ty c j = .boolean ∧ (v = 0 ∨ v = 1))) (ho : 1 ≤ o ∧ o ≤ n0 + k) (hs : (zw_SH o).1 = c)
    (h : zw_V X M d mc ms n0 R (pc + 3) k ss L st (zw_u S.1 o j v, S.2)) : zw_V X M d mc ms n0 R pc k ss L (.int v :: .ref o :: st) S := by
  have hR : zw_isR c j = false := by
    unfold zw_isR
    rcases ht with ht | ⟨ht, -⟩ <;> rw [ht]
  refine zv_put (S' := (zw_u S.1 o j v, S.2)) hd hc hj hw (Or.inl hf) ho hs (fun B => ?_) (fun B => by simp [zw_fv, hR, zw_cv, zw_u]) (fun B a ha => by simp [zw_fv, zw_u, ha]) (fun a ha => ⟨zw_u_off _ _ _ ha, rfl, rfl⟩) h
  rcases ht with ht | ⟨ht, rfl | rfl⟩ <;> rw [ht]
  · exact ⟨rfl, rfl⟩
  · show narrow .boolean (.int 0) = .int 0 ∧ fits .boolean (.int 0) = true
    decide +kernel
  · show narrow .boolean (.int 1) = .int 1 ∧ fits .boolean (.int 1) = true
    decide +kernel
theorem zv_putR {o c j i v : Nat} {r : vw_C} (hd : decode M.2.1 pc = .ok (.putfield i, 3)) (hc : zw_cl[c]? = some r) (hj : j < r.2.2) (hw : Cond.fieldLink M.1.cls i r.1 (r.2.1 j).2.1 (r.2.1 j).2.2.1 ∈ zw_TG) (hf : (r.2.1 j).2.2.2 = false ∨ ((r.2.1 j).2.2.2 = true ∧ M.1.name = "<init>" ∧ r.1 = M.1.cls)) (hR : zw_isR c j = true) (ho : 1 ≤ o ∧ o ≤ n0 + k) (hs : (zw_SH o).1 = c) (hv : ¬ v = 0)
    (h : zw_V X M d mc ms n0 R (pc + 3) k ss L st (S.1, zw_u S.2.1 o j v, S.2.2)) : zw_V X M d mc ms n0 R pc k ss L (.ref v :: .ref o :: st) S := by
  refine zv_put (S' := (S.1, zw_u S.2.1 o j v, S.2.2)) hd hc hj hw hf ho hs (fun B => ?_) (fun B => by simp [zw_fv, hR, zw_cv, zw_u, zw_ro, hv, va_rf]) (fun B a ha => by simp [zw_fv, zw_u, ha]) (fun a ha => ⟨rfl, zw_u_off _ _ _ ha, rfl⟩) h
  unfold zw_isR at hR
  split at hR
  · rename_i e; rw [e]; exact ⟨rfl, rfl⟩
  · rename_i e; rw [e]; exact ⟨rfl, rfl⟩
  · cases hR
end
