/-! ===== the house: counts, stuffs, drawings ===== -/
def zq_lv (b : Bool) : Nat := if b = true then 1 else 0
theorem zq_lv1 (b : Bool) : zq_lv b < 2 := by cases b <;> decide
/-- what a house holds of stuffs and drawings: how many stuffs, cuts, roughs; flat and slant and eats; drawings, the roughs from 6 on -/
def zq_H : Type := Nat × Nat × Nat × (Nat → Nat → Nat) × (Nat → Nat → Nat) × (Nat → Nat) × (Nat → zq_D)
def zq_H.ns (H : zq_H) : Nat := H.1
def zq_H.nc (H : zq_H) : Nat := H.2.1
def zq_H.nr (H : zq_H) : Nat := H.2.2.1
def zq_H.fl (H : zq_H) : Nat → Nat → Nat := H.2.2.2.1
def zq_H.sl (H : zq_H) : Nat → Nat → Nat := H.2.2.2.2.1
def zq_H.ea (H : zq_H) : Nat → Nat := H.2.2.2.2.2.1
def zq_H.D (H : zq_H) : Nat → zq_D := H.2.2.2.2.2.2
def zq_H.has (H : zq_H) (k : Nat) : Prop := k < H.nc ∨ (6 ≤ k ∧ k < 6 + H.nr)
def zq_wt (c : Nat) : Nat := if c = 0 then 0 else if 5 ≤ c then 2 else 1
def zq_hr (d : zq_D) (y : Nat) : Nat → Nat
  | 0 => 0
  | x + 1 => zq_hr d y x + zq_wt (d.c x y)
def zq_hf (d : zq_D) : Nat → Nat
  | 0 => 0
  | y + 1 => zq_hf d y + zq_hr d y d.w
/-- what measureUp finds -/
def zq_DX (I : zI) (o : Nat) (d : zq_D) : Prop := I o 3 = nI (zq_hf d d.t) ∧ (∀ x, x < 12 → ((I o 4 >>> (nI x &&& 31)) &&& 1 = 1 ↔ ∃ y, x < d.w ∧ y < d.t ∧ d.c x y ≠ 0)) ∧ ∃ f l r, I o 5 = nI f ∧ I o 6 = nI l ∧ I o 7 = nI r ∧ l < d.w ∧ r < d.t ∧ (∀ x y, x < d.w → y < d.t → d.c x y ≠ 0 → f ≤ x ∧ x ≤ l ∧ y ≤ r) ∧ (∃ y, y < d.t ∧ d.c f y ≠ 0) ∧ (∃ y, y < d.t ∧ d.c l y ≠ 0) ∧ (∃ x, x < d.w ∧ d.c x r ≠ 0)
def zq_HK (H : zq_H) : Prop := H.ns ≤ 4 ∧ H.nc ≤ 6 ∧ H.nr ≤ 4 ∧ (∀ k c, H.fl k c ≤ 1000 ∧ H.sl k c ≤ 1000 ∧ H.ea k ≤ 1000) ∧ ∀ k, H.has k → zq_ok (H.D k)
def zq_HC (b : Bool) (I : zI) (H : zq_H) : Prop := I (zE_h b) 1 = nI H.ns ∧ I (zE_h b) 3 = nI H.nc ∧ I (zE_h b) 5 = nI H.nr ∧ (∀ k, k < H.ns → (∀ c, c < 4 → I (zE_h b + (10 + 3 * k)) c = nI (H.fl k c) ∧ I (zE_h b + (11 + 3 * k)) c = nI (H.sl k c)) ∧ I (zE_h b + (9 + 3 * k)) 2 = nI (H.ea k)) ∧ ∀ k, H.has k → zq_DC I (zE_h b + (21 + 2 * k)) (H.D k) ∧ zq_DX I (zE_h b + (21 + 2 * k)) (H.D k)
def zq_HM (b : Bool) (I : zI) (H : zq_H) : Prop := I 148 18 = nI (zq_lv b) ∧ I 158 (zq_lv b) = nI H.ns ∧ I 162 (zq_lv b) = nI H.nc ∧ I 163 (zq_lv b) = nI H.nr ∧ (∀ k, k < H.ns → (∀ c, c < 4 → I 159 (4 * (4 * zq_lv b + k) + c) = nI (H.fl k c) ∧ I 160 (4 * (4 * zq_lv b + k) + c) = nI (H.sl k c)) ∧ I 161 (4 * zq_lv b + k) = nI (H.ea k)) ∧ ∀ k, H.has k → zq_DM I (10 * zq_lv b + k) (H.D k)
theorem zq_has10 {H : zq_H} (h : zq_HK H) {k : Nat} (hk : H.has k) : k < 10 := by
  obtain ⟨h1, h2, h3, -⟩ := h
  rcases hk with hk | hk <;> omega
theorem zq_n10 {a : Nat} (n : Nat) (hn : n < 2 ^ 31) : nI n * nI a = nI (n * a) := pk_mul n a
/-- is it a cut? -/
theorem zq_isCut {b : Bool} {I : zI} {H : zq_H} (hK : zq_HK H) (hC : zq_HC b I H) (k : Int32) : ((k < 0 ∨ nI H.nc ≤ k) ∧ f_X10_isCut 1 k I (zE_R b) = some 0) ∨ ∃ j, j < H.nc ∧ k = nI j ∧ f_X10_isCut 1 k I (zE_R b) = some 1 := by
  have h2 := hK.2.1
  unfold f_X10_isCut
  simp only [zE_gC, zE_rh b, zE_gH b, zw_g_t, hC.2.1]
  rcases pk_ix k (n := H.nc) (by omega) with hk | hk | ⟨j, hj, rfl⟩
  · exact Or.inl ⟨Or.inl hk, if_pos hk⟩
  · refine Or.inl ⟨Or.inr hk, ?_⟩
    rw [if_pos hk]
    split <;> rfl
  · exact Or.inr ⟨j, hj, rfl, by rw [if_neg (nI_pos (n := j) (by omega)), if_neg (nI_ge hj (by omega))]⟩
theorem zq_isRough {b : Bool} {I : zI} {H : zq_H} (hK : zq_HK H) (hC : zq_HC b I H) (k : Int32) : ((k < 0 ∨ nI H.nr ≤ k) ∧ f_X10_isRough 1 k I (zE_R b) = some 0) ∨ ∃ j, j < H.nr ∧ k = nI j ∧ f_X10_isRough 1 k I (zE_R b) = some 1 := by
  have h2 := hK.2.2.1
  unfold f_X10_isRough
  simp only [zE_gC, zE_rh b, zE_gH b, zw_g_t, hC.2.2.1]
  rcases pk_ix k (n := H.nr) (by omega) with hk | hk | ⟨j, hj, rfl⟩
  · exact Or.inl ⟨Or.inl hk, if_pos hk⟩
  · refine Or.inl ⟨Or.inr hk, ?_⟩
    rw [if_pos hk]
    split <;> rfl
  · exact Or.inr ⟨j, hj, rfl, by rw [if_neg (nI_pos (n := j) (by omega)), if_neg (nI_ge hj (by omega))]⟩
theorem zq_isStuff {b : Bool} {I : zI} {H : zq_H} (hK : zq_HK H) (hC : zq_HC b I H) (k : Int32) : ((k < 0 ∨ nI H.ns ≤ k) ∧ f_X10_isStuff 1 k I (zE_R b) = some 0) ∨ ∃ j, j < H.ns ∧ k = nI j ∧ f_X10_isStuff 1 k I (zE_R b) = some 1 := by
  have h2 := hK.1
  unfold f_X10_isStuff
  simp only [zE_gC, zE_rh b, zE_gH b, zw_g_t, hC.1]
  rcases pk_ix k (n := H.ns) (by omega) with hk | hk | ⟨j, hj, rfl⟩
  · exact Or.inl ⟨Or.inl hk, if_pos hk⟩
  · refine Or.inl ⟨Or.inr hk, ?_⟩
    rw [if_pos hk]
    split <;> rfl
  · exact Or.inr ⟨j, hj, rfl, by rw [if_neg (nI_pos (n := j) (by omega)), if_neg (nI_ge hj (by omega))]⟩
theorem zq_in_no {v : Int32} {n : Nat} (h : v < 0 ∨ nI n ≤ v) (hn : n < 2 ^ 30) : f_X11_in v 0 (nI n - 1) = some 0 := by
  rcases h with h | h
  · exact zE_in_lo h
  · exact zE_in_hi h hn
theorem zq_cutRow {b : Bool} {I : zI} {H : zq_H} (hK : zq_HK H) (hM : zq_HM b I H) (k : Int32) : ((k < 0 ∨ nI H.nc ≤ k) → f_X11_cutRow 148 k I (zE_R b) = some (-1)) ∧ ∀ j, j < H.nc → k = nI j → f_X11_cutRow 148 k I (zE_R b) = some (nI (10 * zq_lv b + j)) := by
  have h2 := hK.2.1
  have hl := zq_lv1 b
  unfold f_X11_cutRow
  simp only [zE_gM, zE_rM b, zE_sM, zw_g_t, hM.1, zE_in (k := zq_lv b) (n := 2) hl (by decide), zE_cl (k := zq_lv b) (by omega), hM.2.2.1]
  refine ⟨fun hk => ?_, fun j hj e => ?_⟩
  · rw [zq_in_no hk (by omega)]; rfl
  · subst e
    rw [zE_in_ok hj (by omega), Option.bind_some, if_neg zE_10, show (10 : Int32) = nI 10 from rfl, pk_mul, nI_add]
theorem zq_roughRow {b : Bool} {I : zI} {H : zq_H} (hK : zq_HK H) (hM : zq_HM b I H) (k : Int32) : ((k < 0 ∨ nI H.nr ≤ k) → f_X11_roughRow 148 k I (zE_R b) = some (-1)) ∧ ∀ j, j < H.nr → k = nI j → f_X11_roughRow 148 k I (zE_R b) = some (nI (10 * zq_lv b + (6 + j))) := by
  have h2 := hK.2.2.1
  have hl := zq_lv1 b
  unfold f_X11_roughRow
  simp only [zE_gM, zE_rM b, zE_sM, zw_g_t, hM.1, zE_in (k := zq_lv b) (n := 2) hl (by decide), zE_cl (k := zq_lv b) (by omega), hM.2.2.2.1]
  refine ⟨fun hk => ?_, fun j hj e => ?_⟩
  · rw [zq_in_no hk (by omega)]; rfl
  · subst e
    rw [zE_in_ok hj (by omega), Option.bind_some, if_neg zE_10, show (10 : Int32) = nI 10 from rfl, show (6 : Int32) = nI 6 from rfl, pk_mul, nI_add, nI_add, Nat.add_assoc]
theorem zq_stuffRow {b : Bool} {I : zI} {H : zq_H} (hK : zq_HK H) (hM : zq_HM b I H) (k : Int32) : ((k < 0 ∨ nI H.ns ≤ k) → f_X11_stuffRow 148 k I (zE_R b) = some (-1)) ∧ ∀ j, j < H.ns → k = nI j → f_X11_stuffRow 148 k I (zE_R b) = some (nI (4 * zq_lv b + j)) := by
  have h2 := hK.1
  have hl := zq_lv1 b
  unfold f_X11_stuffRow
  simp only [zE_gM, zE_rM b, zE_sM, zw_g_t, hM.1, zE_in (k := zq_lv b) (n := 2) hl (by decide), zE_cl (k := zq_lv b) (by omega), hM.2.1]
  refine ⟨fun hk => ?_, fun j hj e => ?_⟩
  · rw [zq_in_no hk (by omega)]; rfl
  · subst e
    rw [zE_in_ok hj (by omega), Option.bind_some, if_neg zE_10, show (4 : Int32) = nI 4 from rfl, pk_mul, nI_add]
theorem zq_nm1 {n : Nat} (h : n < 2 ^ 31) : ¬ nI n = -1 := by
  intro q
  have := congrArg Int32.toInt q
  rw [nI_toInt h] at this
  have e : (-1 : Int32).toInt = -1 := by decide
  omega
/-- a cut or a rough: the class's object and the model's row -/
theorem zq_draw {b : Bool} {I : zI} {H : zq_H} (hK : zq_HK H) (hC : zq_HC b I H) (hM : zq_HM b I H) (v k : Int32) (hv : v = 0 ∨ v = 1) : (f_X10_isDrawing 1 v k I (zE_R b) = some 0 ∧ f_X11_row 148 v k I (zE_R b) = some (-1)) ∨ ∃ j, H.has j ∧ f_X10_isDrawing 1 v k I (zE_R b) = some 1 ∧ f_X10_drawing 1 v k (zE_R b) = some (zE_h b + (21 + 2 * j)) ∧ f_X11_row 148 v k I (zE_R b) = some (nI (10 * zq_lv b + j)) := by
  have k1 := hK.1
  have k2 := hK.2.1
  have k3 := hK.2.2.1
  unfold f_X10_isDrawing f_X11_row f_X10_drawing
  rcases hv with rfl | rfl
  · simp only [if_pos (rfl : (0 : Int32) = 0), zE_gC, zE_gM, zw_g_t]
    rcases zq_isCut hK hC k with ⟨h1, h2⟩ | ⟨j, hj, rfl, h2⟩
    · rw [h2, (zq_cutRow hK hM k).1 h1]
      exact Or.inl ⟨rfl, rfl⟩
    · rw [h2, (zq_cutRow hK hM (nI j)).2 j hj rfl]
      refine Or.inr ⟨j, Or.inl hj, rfl, ?_, rfl⟩
      simp only [zE_rh b, zE_gH b, zE_rH b b, zE_sH b, zw_g_t, zE_cl (k := j) (by omega), zE_in (k := j) (n := 6) (by omega) (by decide), zE_rHc b b j (by omega), (zE_sHdr b j (by omega)).2]
      rw [if_pos trivial]
  · simp only [if_neg zE_10, zE_gC, zE_gM, zw_g_t]
    rcases zq_isRough hK hC k with ⟨h1, h2⟩ | ⟨j, hj, rfl, h2⟩
    · rw [h2, (zq_roughRow hK hM k).1 h1]
      exact Or.inl ⟨rfl, rfl⟩
    · rw [h2, (zq_roughRow hK hM (nI j)).2 j hj rfl]
      refine Or.inr ⟨6 + j, Or.inr ⟨by omega, by omega⟩, rfl, ?_, rfl⟩
      simp only [zE_rh b, zE_gH b, zE_rH b b, zE_sH b, zw_g_t, zE_cl (k := j) (by omega), zE_in (k := j) (n := 4) (by omega) (by decide), zE_rHr b b j (by omega)]
      have h := (zE_sHdr b (6 + j) (by omega)).2
      rw [show zE_h b + (33 + 2 * j) = zE_h b + (21 + 2 * (6 + j)) by omega, h, zw_g_t]
/-- cell -/
theorem zq_cellE {b : Bool} {I : zI} {H : zq_H} (hK : zq_HK H) (hC : zq_HC b I H) (hM : zq_HM b I H) (v k x y : Int32) (hv : v = 0 ∨ v = 1) : ∃ r, f_X10_cell 1 v k x y I (zE_R b) = some r ∧ f_X11_cell 148 v k x y I (zE_R b) = some r := by
  unfold f_X10_cell f_X11_cell j_X11_cell_49
  simp only [zE_gC, zE_gM, zE_rM b, zE_sM, zw_g_t]
  rcases zq_draw hK hC hM v k hv with ⟨h1, h2⟩ | ⟨j, hj, h1, h2, h3⟩
  · rw [h1, h2]; exact ⟨_, rfl, rfl⟩
  · have hl := zq_lv1 b
    have hj10 := zq_has10 hK hj
    have ok := hK.2.2.2.2 j hj
    have w2 := ok.w2
    have t2 := ok.t2
    obtain ⟨dc, -⟩ := hC.2.2.2.2 j hj
    have dm := hM.2.2.2.2.2 j hj
    have hr := zq_drk b b j hj10
    rw [h1, h2, h3]
    simp only [Option.bind_some, if_neg (zq_nm1 (n := 10 * zq_lv b + j) (by omega)), if_pos zE_10, zE_in (k := 10 * zq_lv b + j) (n := 20) (by omega) (by decide), zE_cl (k := 10 * zq_lv b + j) (by omega), hr.1, zw_g_t, dm.w, dm.t]
    unfold f_X0_hasPlace
    simp only [hr.1, zw_g_t, dc.w, dc.t]
    rcases pk_ix x (n := (H.D j).w) (by omega) with hx | hx | ⟨a, ha, rfl⟩
    · rw [if_pos hx, zE_in_lo hx]; exact ⟨_, rfl, rfl⟩
    · rw [zE_in_hi hx (by omega), if_pos hx]
      refine ⟨-1, ?_, rfl⟩
      split <;> rfl
    · rw [if_neg (nI_pos (n := a) (by omega)), if_neg (nI_ge ha (by omega)), zE_in_ok ha (by omega), Option.bind_some, if_neg zE_10]
      rcases pk_ix y (n := (H.D j).t) (by omega) with hy | hy | ⟨c, hc, rfl⟩
      · rw [if_pos hy, zE_in_lo hy]; exact ⟨_, rfl, rfl⟩
      · rw [zE_in_hi hy (by omega), if_pos hy]
        refine ⟨-1, ?_, rfl⟩
        split <;> rfl
      · rw [if_neg (nI_pos (n := c) (by omega)), if_neg (nI_ge hc (by omega)), zE_in_ok hc (by omega), Option.bind_some, if_neg zE_10, Option.bind_some, if_pos zE_10, zq_cC hr ok dc, zq_cM (by omega) ok dm]
        exact ⟨_, rfl, rfl⟩
/-- the model's weightOf -/
theorem zq_wtE : ∀ c, c < 7 → (if ¬ nI c = 0 then if (5 : Int32) ≤ nI c then (2 : Int32) else 1 else 0) = nI (zq_wt c) := by decide
theorem zq_weightOf {b : Bool} {I : zI} {k : Nat} {d : zq_D} (hk : k < 20) (ok : zq_ok d) (dm : zq_DM I k d) : f_X11_weightOf 148 (nI k) I (zE_R b) = some (nI (zq_hf d d.t)) := by
  have w2 := ok.w2
  have t2 := ok.t2
  have inner : ∀ y a, y < d.t → zw_it (s_X11_weightOf_17 148 (nI k) (nI y) I (zE_R b)) 1000000 (nI a, 0) = some (nI (a + zq_hr d y d.w)) := by
    intro y a hy
    refine zE_forE (fun i => (nI (a + zq_hr d y i), nI i)) _ d.w (fun i hi => ?_) ?_ (by omega)
    · unfold s_X11_weightOf_17
      simp only [zE_gM, zE_rM b, zE_sM, zw_g_t, zE_in (k := k) (n := 20) hk (by decide), zE_cl (k := k) (by omega), dm.w, if_neg (nI_ge hi (by omega)), zq_cM hk ok dm, Option.bind_some, zq_at_in hi hy w2 t2]
      have hq := zq_wtE (d.c i y) (by have := ok.c6 i y; omega)
      have e2 : ∀ v : Int32, j_X11_weightOf_59_17 148 (nI k) (nI y) (nI i) (nI (a + zq_hr d y i)) v I (zE_R b) = some (.inl (nI (a + zq_hr d y i) + v, nI i + 1)) := fun v => rfl
      simp only [e2]
      have e3 : nI (a + zq_hr d y i) + nI (zq_wt (d.c i y)) = nI (a + zq_hr d y (i + 1)) := by
        show _ = nI (a + (zq_hr d y i + zq_wt (d.c i y)))
        rw [nI_add, Nat.add_assoc]
      rw [← e3, ← hq, nI_1]
      split
      · split <;> rfl
      · rfl
    · unfold s_X11_weightOf_17
      simp only [zE_gM, zE_rM b, zE_sM, zw_g_t, zE_in (k := k) (n := 20) hk (by decide), zE_cl (k := k) (by omega), dm.w, if_pos (nI_le (Nat.le_refl d.w) (by omega))]
  unfold f_X11_weightOf
  have h := zE_forE (step := s_X11_weightOf_4 148 (nI k) I (zE_R b)) (fun i => (nI (zq_hf d i), nI i)) (nI (zq_hf d d.t)) d.t (fun i hi => by
    unfold s_X11_weightOf_4
    simp only [zE_gM, zE_rM b, zE_sM, zw_g_t, zE_in (k := k) (n := 20) hk (by decide), zE_cl (k := k) (by omega), dm.t, if_neg (nI_ge hi (by omega)), inner i (zq_hf d i) hi, Option.bind_some, zw_let_e, nI_1]
    rfl) (by
    unfold s_X11_weightOf_4
    simp only [zE_gM, zE_rM b, zE_sM, zw_g_t, zE_in (k := k) (n := 20) hk (by decide), zE_cl (k := k) (by omega), dm.t, if_pos (nI_le (Nat.le_refl d.t) (by omega))]) (by omega)
  rw [show ((0 : Int32), (0 : Int32)) = (nI (zq_hf d 0), nI 0) from rfl, h]
  rfl
theorem zq_weightE {b : Bool} {I : zI} {H : zq_H} (hK : zq_HK H) (hC : zq_HC b I H) (hM : zq_HM b I H) (v k : Int32) (hv : v = 0 ∨ v = 1) : ∃ r, f_X10_weight 1 v k I (zE_R b) = some r ∧ f_X11_weight 148 v k I (zE_R b) = some r := by
  unfold f_X10_weight f_X11_weight
  simp only [zE_gC, zE_gM, zw_g_t]
  rcases zq_draw hK hC hM v k hv with ⟨h1, h2⟩ | ⟨j, hj, h1, h2, h3⟩
  · rw [h1, h2]; exact ⟨_, rfl, rfl⟩
  · have hl := zq_lv1 b
    have hj10 := zq_has10 hK hj
    have ok := hK.2.2.2.2 j hj
    obtain ⟨dc, dx⟩ := hC.2.2.2.2 j hj
    have dm := hM.2.2.2.2.2 j hj
    have hr := zq_drk b b j hj10
    rw [h1, h2, h3]
    simp only [Option.bind_some, if_pos (zq_nm1 (n := 10 * zq_lv b + j) (by omega)), if_neg zE_10, hr.1, zw_g_t, dx.1, zq_weightOf (b := b) (k := 10 * zq_lv b + j) (by omega) ok dm]
    exact ⟨_, rfl, rfl⟩
