/-! ===== drawings ===== -/
/-- a loop that counts from a up to n, with a way out -/
theorem zE_for {σ ρ : Type} {step : σ → Option (σ ⊕ ρ)} (P : Nat → σ → Prop) (Post : ρ → Prop) (n : Nat) (hs : ∀ i s, i < n → P i s → (∃ t, step s = some (.inl t) ∧ P (i + 1) t) ∨ (∃ r, step s = some (.inr r) ∧ Post r)) (he : ∀ s, P n s → ∃ r, step s = some (.inr r) ∧ Post r) (a : Nat) (s : σ) (ha : a ≤ n) (hn : n < 1000000) (h : P a s) : ∃ r, zw_it step 1000000 s = some r ∧ Post r := by
  refine zE_loop (fun m s => ∃ i, i ≤ n ∧ m = n - i ∧ P i s) Post ?_ 1000000 (n - a) s (by omega) ⟨a, ha, rfl, h⟩
  rintro m s ⟨i, hi, rfl, hp⟩
  by_cases hc : i < n
  · rcases hs i s hc hp with ⟨t, h1, h2⟩ | h1
    · exact Or.inl ⟨t, n - (i + 1), h1, by omega, i + 1, by omega, rfl, h2⟩
    · exact Or.inr h1
  · obtain rfl : i = n := by omega
    exact Or.inr (he s hp)
/-- the same, where the state is told by the number and there is no way out -/
theorem zE_forE {σ ρ : Type} {step : σ → Option (σ ⊕ ρ)} (F : Nat → σ) (r : ρ) (n : Nat) (hs : ∀ i, i < n → step (F i) = some (.inl (F (i + 1)))) (he : step (F n) = some (.inr r)) (hn : n < 1000000) : zw_it step 1000000 (F 0) = some r := by
  obtain ⟨q, h1, rfl⟩ := zE_for (step := step) (fun i s => s = F i) (fun q => q = r) n (fun i s hi hp => Or.inl ⟨F (i + 1), by rw [hp]; exact hs i hi, rfl⟩) (fun s hp => ⟨r, by rw [hp]; exact he, rfl⟩) 0 (F 0) (by omega) hn rfl
  exact h1
def zq_D : Type := Nat × Nat × (Nat → Nat → Nat)
def zq_D.w (d : zq_D) : Nat := d.1
def zq_D.t (d : zq_D) : Nat := d.2.1
def zq_D.c (d : zq_D) : Nat → Nat → Nat := d.2.2
/-- the cell at a place; nothing beyond the drawing -/
def zq_at (d : zq_D) (x y : Int32) : Nat := if 0 ≤ x.toInt ∧ x.toInt < d.w ∧ 0 ≤ y.toInt ∧ y.toInt < d.t then d.c x.toInt.toNat y.toInt.toNat else 0
def zq_ok (d : zq_D) : Prop := 1 ≤ d.w ∧ d.w ≤ 12 ∧ 1 ≤ d.t ∧ d.t ≤ 12 ∧ ∀ x y, d.c x y ≤ 6
theorem zq_ok.w1 {d : zq_D} (h : zq_ok d) : 1 ≤ d.w := h.1
theorem zq_ok.w2 {d : zq_D} (h : zq_ok d) : d.w ≤ 12 := h.2.1
theorem zq_ok.t1 {d : zq_D} (h : zq_ok d) : 1 ≤ d.t := h.2.2.1
theorem zq_ok.t2 {d : zq_D} (h : zq_ok d) : d.t ≤ 12 := h.2.2.2.1
theorem zq_ok.c6 {d : zq_D} (h : zq_ok d) : ∀ x y, d.c x y ≤ 6 := h.2.2.2.2
theorem zq_at_in {d : zq_D} {x y : Nat} (hx : x < d.w) (hy : y < d.t) (hw : d.w ≤ 12) (ht : d.t ≤ 12) : zq_at d (nI x) (nI y) = d.c x y := by
  unfold zq_at
  rw [nI_toInt (by omega), nI_toInt (by omega), if_pos (by omega)]
  rfl
theorem zq_at_x0 {d : zq_D} {x y : Int32} (h : x < 0) : zq_at d x y = 0 := by
  have h1 := Int32.lt_iff_toInt_lt.mp h
  rw [Int32.toInt_zero] at h1
  exact if_neg (by omega)
theorem zq_at_y0 {d : zq_D} {x y : Int32} (h : y < 0) : zq_at d x y = 0 := by
  have h1 := Int32.lt_iff_toInt_lt.mp h
  rw [Int32.toInt_zero] at h1
  exact if_neg (by omega)
theorem zq_at_xh {d : zq_D} {x y : Int32} (h : nI d.w ≤ x) (hw : d.w ≤ 12) : zq_at d x y = 0 := by
  have h1 := Int32.le_iff_toInt_le.mp h
  rw [nI_toInt (by omega)] at h1
  exact if_neg (by omega)
theorem zq_at_yh {d : zq_D} {x y : Int32} (h : nI d.t ≤ y) (ht : d.t ≤ 12) : zq_at d x y = 0 := by
  have h1 := Int32.le_iff_toInt_le.mp h
  rw [nI_toInt (by omega)] at h1
  exact if_neg (by omega)
theorem zq_at_6 {d : zq_D} (h : zq_ok d) (x y : Int32) : zq_at d x y ≤ 6 := by
  unfold zq_at
  split
  · exact h.c6 _ _
  · omega
/-- where it isn't nothing, it is inside -/
theorem zq_at_ne {d : zq_D} (h : zq_ok d) {x y : Int32} (hn : zq_at d x y ≠ 0) : ∃ a b, a < d.w ∧ b < d.t ∧ x = nI a ∧ y = nI b := by
  have w2 := h.w2
  have t2 := h.t2
  rcases pk_ix x (n := d.w) (by omega) with hx | hx | ⟨a, ha, rfl⟩
  · exact absurd (zq_at_x0 hx) hn
  · exact absurd (zq_at_xh hx h.w2) hn
  · rcases pk_ix y (n := d.t) (by omega) with hy | hy | ⟨b, hb, rfl⟩
    · exact absurd (zq_at_y0 hy) hn
    · exact absurd (zq_at_yh hy h.t2) hn
    · exact ⟨a, b, ha, hb, rfl, rfl⟩
/-- an object that is a drawing, and its row of cells behind it -/
def zq_dr (sw : Bool) (o : Nat) : Prop := zw_gc o 0 = true ∧ zE_R sw o 0 = o + 1 ∧ zw_gc (o + 1) 13 = true ∧ zw_SH (o + 1) = (13, 144)
theorem zq_drk (sw b : Bool) (k : Nat) (hk : k < 10) : zq_dr sw (zE_h b + (21 + 2 * k)) := ⟨(zE_sHdr b k hk).2, (zE_rHd sw b k hk).trans (by omega), by
  have h := (zE_sHdc b k hk).2
  rwa [show zE_h b + (22 + 2 * k) = zE_h b + (21 + 2 * k) + 1 by omega] at h, by
  have h := (zE_sHdc b k hk).1
  rwa [show zE_h b + (22 + 2 * k) = zE_h b + (21 + 2 * k) + 1 by omega] at h⟩
/-- the class's drawing o -/
def zq_DC (I : zI) (o : Nat) (d : zq_D) : Prop := I o 1 = nI d.w ∧ I o 2 = nI d.t ∧ ∀ x y, x < d.w → y < d.t → I (o + 1) (12 * y + x) = nI (d.c x y)
theorem zq_DC.w {I : zI} {o : Nat} {d : zq_D} (h : zq_DC I o d) : I o 1 = nI d.w := h.1
theorem zq_DC.t {I : zI} {o : Nat} {d : zq_D} (h : zq_DC I o d) : I o 2 = nI d.t := h.2.1
theorem zq_DC.c {I : zI} {o : Nat} {d : zq_D} (h : zq_DC I o d) : ∀ x y, x < d.w → y < d.t → I (o + 1) (12 * y + x) = nI (d.c x y) := h.2.2
/-- the model's drawing k -/
def zq_DM (I : zI) (k : Nat) (d : zq_D) : Prop := I 164 k = nI d.w ∧ I 165 k = nI d.t ∧ ∀ x y, x < d.w → y < d.t → I 166 (144 * k + 12 * y + x) = nI (d.c x y)
theorem zq_DM.w {I : zI} {k : Nat} {d : zq_D} (h : zq_DM I k d) : I 164 k = nI d.w := h.1
theorem zq_DM.t {I : zI} {k : Nat} {d : zq_D} (h : zq_DM I k d) : I 165 k = nI d.t := h.2.1
theorem zq_DM.c {I : zI} {k : Nat} {d : zq_D} (h : zq_DM I k d) : ∀ x y, x < d.w → y < d.t → I 166 (144 * k + 12 * y + x) = nI (d.c x y) := h.2.2
theorem zq_n12 (a b : Nat) : 12 * nI a + nI b = nI (12 * a + b) := by
  rw [show (12 : Int32) = nI 12 from rfl, pk_mul, nI_add]
theorem zq_cC {sw : Bool} {I : zI} {o : Nat} {d : zq_D} (hr : zq_dr sw o) (hd : zq_ok d) (h : zq_DC I o d) (x y : Int32) : f_X0_cellAt o x y I (zE_R sw) = some (nI (zq_at d x y)) := by
  obtain ⟨g1, g2, g3, g4⟩ := hr
  have w2 := hd.w2
  have t2 := hd.t2
  unfold f_X0_cellAt
  simp only [g1, g2, g3, g4, zw_g_t, h.w, h.t]
  rcases pk_ix x (n := d.w) (by omega) with hx | hx | ⟨a, ha, rfl⟩
  · rw [if_pos hx, zq_at_x0 hx]; rfl
  · rw [zq_at_xh hx hd.w2]
    by_cases h0 : x < 0
    · rw [if_pos h0]; rfl
    · rw [if_neg h0, if_pos hx]; rfl
  · rw [if_neg (nI_pos (n := a) (by omega)), if_neg (nI_ge ha (by omega))]
    rcases pk_ix y (n := d.t) (by omega) with hy | hy | ⟨b, hb, rfl⟩
    · rw [if_pos hy, zq_at_y0 hy]; rfl
    · rw [zq_at_yh hy hd.t2]
      by_cases h0 : y < 0
      · rw [if_pos h0]; rfl
      · rw [if_neg h0, if_pos hy]; rfl
    · rw [if_neg (nI_pos (n := b) (by omega)), if_neg (nI_ge hb (by omega)), zq_n12, zE_in (by omega) (by decide), zw_g_t, zE_cl (by omega), zq_at_in ha hb hd.w2 hd.t2, h.c a b ha hb]
theorem zq_cM {sw : Bool} {I : zI} {k : Nat} {d : zq_D} (hk : k < 20) (hd : zq_ok d) (h : zq_DM I k d) (x y : Int32) : f_X11_cellAt 148 (nI k) x y I (zE_R sw) = some (nI (zq_at d x y)) := by
  have w2 := hd.w2
  have t2 := hd.t2
  unfold f_X11_cellAt j_X11_cellAt_28
  simp only [zE_gM, zE_rM sw, zE_sM, zw_g_t, zE_in (k := k) (n := 20) hk (by decide), zE_cl (k := k) (by omega), h.w, h.t]
  rcases pk_ix x (n := d.w) (by omega) with hx | hx | ⟨a, ha, rfl⟩
  · rw [if_pos hx, zq_at_x0 hx]; rfl
  · rw [zq_at_xh hx hd.w2, if_pos hx]
    by_cases h0 : x < 0
    · rw [if_pos h0]; rfl
    · rw [if_neg h0]
      split <;> rfl
  · rw [if_neg (nI_pos (n := a) (by omega)), if_neg (nI_ge ha (by omega))]
    rcases pk_ix y (n := d.t) (by omega) with hy | hy | ⟨b, hb, rfl⟩
    · rw [if_pos hy, zq_at_y0 hy]; rfl
    · rw [zq_at_yh hy hd.t2]
      have hy2 : ¬ y < nI d.t := by
        have h1 := Int32.le_iff_toInt_le.mp hy
        rw [Int32.lt_iff_toInt_lt]; omega
      rw [if_neg hy2]
      split <;> rfl
    · rw [if_neg (nI_pos (n := b) (by omega)), if_pos (nI_lt hb (by omega)), show (144 : Int32) = nI 144 from rfl, show (12 : Int32) = nI 12 from rfl, pk_mul, pk_mul, nI_add, nI_add, zE_in (by omega) (by decide), zw_g_t, zE_cl (by omega), zq_at_in ha hb hd.w2 hd.t2, h.c a b ha hb]
