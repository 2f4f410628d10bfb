/-! ===== calls that only look something up ===== -/
theorem zE_in_lo {v m : Int32} (h : v < 0) : f_X11_in v 0 m = some 0 := by
  unfold f_X11_in
  rw [if_pos h]
theorem zE_in_hi {v : Int32} {n : Nat} (h : nI n ≤ v) (hn : n < 2 ^ 30) : f_X11_in v 0 (nI n - 1) = some 0 := by
  have e1 : (nI n - 1).toInt = (n : Int) - 1 := pk_sub_toInt (b := 1) hn (by decide)
  have h1 := Int32.le_iff_toInt_le.mp h
  rw [nI_toInt (by omega)] at h1
  unfold f_X11_in
  rw [if_neg, if_pos]
  · rw [Int32.lt_iff_toInt_lt, e1]; omega
  · rw [Int32.lt_iff_toInt_lt, Int32.toInt_zero]; omega
theorem zE_in_ok {j n : Nat} (h : j < n) (hn : n < 2 ^ 30) : f_X11_in (nI j) 0 (nI n - 1) = some 1 := by
  have e1 : (nI n - 1).toInt = (n : Int) - 1 := pk_sub_toInt (b := 1) hn (by decide)
  unfold f_X11_in
  rw [if_neg (nI_pos (n := j) (by omega)), if_neg]
  rw [Int32.lt_iff_toInt_lt, e1, nI_toInt (by omega)]
  omega
theorem zE_10 : ¬ (1 : Int32) = 0 := by decide
/-- what ray() followed last -/
def zE_Y (I : zI) : Prop := (I 1 4 = 0 ∧ I 148 61 = 0) ∨ (I 1 4 = 1 ∧ I 148 61 = 1 ∧ ∃ n, n ≤ 300 ∧ I 122 1 = nI n ∧ I 148 62 = nI n ∧ (∀ j, j < n → I 123 j = I 187 j) ∧ ∀ j, j < 7 → I 124 j = I 188 j)
theorem zE_stepE {sw : Bool} {I : zI} (h : zE_Y I) (k : Int32) : ∃ r, f_X10_step 1 k I (zE_R sw) = some r ∧ f_X11_step 148 k I (zE_R sw) = some r := by
  unfold f_X10_step f_X11_step
  simp only [zE_gC, zE_gM, zE_rC sw, zE_rM sw, zE_sC, zE_sM, zw_g_t]
  rcases h with ⟨h1, h2⟩ | ⟨h1, h2, n, hn, h3, h4, h5, h6⟩
  · rw [if_pos h1, if_pos h2]; exact ⟨_, rfl, rfl⟩
  · have h1n : ¬ _ = (0 : Int32) := fun q => zE_10 (h1.symm.trans q)
    have h2n : ¬ _ = (0 : Int32) := fun q => zE_10 (h2.symm.trans q)
    rw [if_neg h1n, if_neg h2n, h3, h4]
    rcases pk_ix k (n := n) (by omega) with hk | hk | ⟨j, hj, rfl⟩
    · rw [if_pos hk, zE_in_lo hk]; exact ⟨_, rfl, rfl⟩
    · rw [zE_in_hi hk (by omega), Option.bind_some, if_pos rfl]
      by_cases h0 : k < 0
      · rw [if_pos h0]; exact ⟨_, rfl, rfl⟩
      · rw [if_neg h0, if_pos hk]; exact ⟨_, rfl, rfl⟩
    · rw [if_neg (nI_pos (n := j) (by omega)), if_neg (nI_ge hj (by omega)), zE_in_ok hj (by omega), Option.bind_some, if_neg zE_10, zE_in (by omega) (by decide), zw_g_t, zw_g_t, zE_cl (by omega), h5 j hj]
      exact ⟨_, rfl, rfl⟩
theorem zE_sparkE {sw : Bool} {I : zI} (h : zE_Y I) (k : Int32) : ∃ r, f_X10_spark 1 k I (zE_R sw) = some r ∧ f_X11_spark 148 k I (zE_R sw) = some r := by
  unfold f_X10_spark f_X11_spark
  simp only [zE_gC, zE_gM, zE_rC sw, zE_rM sw, zE_sC, zE_sM, zw_g_t]
  rcases h with ⟨h1, h2⟩ | ⟨h1, h2, n, hn, h3, h4, h5, h6⟩
  · rw [if_pos h1, if_pos h2]; exact ⟨_, rfl, rfl⟩
  · have h1n : ¬ _ = (0 : Int32) := fun q => zE_10 (h1.symm.trans q)
    have h2n : ¬ _ = (0 : Int32) := fun q => zE_10 (h2.symm.trans q)
    rw [if_neg h1n, if_neg h2n, show (6 : Int32) = nI 7 - 1 by decide]
    rcases pk_ix k (n := 7) (by omega) with hk | hk | ⟨j, hj, rfl⟩
    · rw [if_pos hk, zE_in_lo hk]; exact ⟨_, rfl, rfl⟩
    · rw [zE_in_hi hk (by omega), Option.bind_some, if_pos rfl]
      have h9 : nI 7 - 1 < k := by
        have h1 := Int32.le_iff_toInt_le.mp hk
        rw [nI_toInt (by omega)] at h1
        rw [Int32.lt_iff_toInt_lt, show (nI 7 - 1).toInt = 6 by decide]; omega
      by_cases h0 : k < 0
      · rw [if_pos h0]; exact ⟨_, rfl, rfl⟩
      · rw [if_neg h0, if_pos h9]; exact ⟨_, rfl, rfl⟩
    · have h9 : ¬ nI 7 - 1 < nI j := by
        rw [Int32.lt_iff_toInt_lt, show (nI 7 - 1).toInt = 6 by decide, nI_toInt (by omega)]; omega
      rw [if_neg (nI_pos (n := j) (by omega)), if_neg h9, zE_in_ok hj (by omega), Option.bind_some, if_neg zE_10, zE_in (by omega) (by decide), zw_g_t, zw_g_t, zE_cl (by omega), h6 j hj]
      exact ⟨_, rfl, rfl⟩
/-- the SHINE that is remembered -/
def zE_S (I : zI) : Prop := (I 1 6 = 0 ∧ I 148 65 = 0) ∨ (I 1 6 = 1 ∧ I 148 65 = 1 ∧ ∃ n, n ≤ 12 ∧ I 126 2 = nI n ∧ I 148 66 = nI n ∧ (∀ j, j < n → I 131 j = I 191 j) ∧ (∀ j, j < 9 → I 127 j = I 190 j) ∧ (I 189 0 = I 190 0 ∧ I 189 1 = I 190 1 ∧ I 189 2 = I 190 2 ∧ I 189 3 = I 126 3 ∧ I 189 4 = I 190 3 ∧ I 189 5 = I 190 4 ∧ I 189 6 = nI n ∧ I 189 7 = I 126 4))
theorem zE_seenE {sw : Bool} {I : zI} (h : zE_S I) (k : Int32) : ∃ r, f_X10_seen 1 k I (zE_R sw) = some r ∧ f_X11_seen 148 k I (zE_R sw) = some r := by
  unfold f_X10_seen f_X11_seen
  simp only [zE_gC, zE_gM, zE_rC sw, zE_rM sw, zE_sC, zE_sM, zw_g_t]
  rcases h with ⟨h1, h2⟩ | ⟨h1, h2, n, hn, h3, h4, h5, h6, -⟩
  · rw [if_pos h1, if_pos h2]; exact ⟨_, rfl, rfl⟩
  · have h1n : ¬ _ = (0 : Int32) := fun q => zE_10 (h1.symm.trans q)
    have h2n : ¬ _ = (0 : Int32) := fun q => zE_10 (h2.symm.trans q)
    rw [if_neg h1n, if_neg h2n, show (8 : Int32) = nI 9 - 1 by decide, show (9 : Int32) = nI 9 by decide]
    rcases pk_ix k (n := 9) (by omega) with hk | hk | ⟨j, hj, rfl⟩
    · rw [if_pos hk, zE_in_lo hk]; exact ⟨_, rfl, rfl⟩
    · rw [zE_in_hi hk (by omega), Option.bind_some, if_pos rfl]
      by_cases h0 : k < 0
      · rw [if_pos h0]; exact ⟨_, rfl, rfl⟩
      · rw [if_neg h0, if_pos hk]; exact ⟨_, rfl, rfl⟩
    · rw [if_neg (nI_pos (n := j) (by omega)), if_neg (nI_ge hj (by omega)), zE_in_ok hj (by omega), Option.bind_some, if_neg zE_10, zE_in (by omega) (by decide), zw_g_t, zw_g_t, zE_cl (by omega), h6 j hj]
      exact ⟨_, rfl, rfl⟩
theorem zE_columnE {sw : Bool} {I : zI} (h : zE_S I) (k : Int32) : ∃ r, f_X10_column 1 k I (zE_R sw) = some r ∧ f_X11_column 148 k I (zE_R sw) = some r := by
  unfold f_X10_column f_X11_column
  simp only [zE_gC, zE_gM, zE_rC sw, zE_rM sw, zE_sC, zE_sM, zw_g_t]
  rcases h with ⟨h1, h2⟩ | ⟨h1, h2, n, hn, h3, h4, h5, h6, -⟩
  · rw [if_pos h1, if_pos h2]; exact ⟨_, rfl, rfl⟩
  · have h1n : ¬ _ = (0 : Int32) := fun q => zE_10 (h1.symm.trans q)
    have h2n : ¬ _ = (0 : Int32) := fun q => zE_10 (h2.symm.trans q)
    rw [if_neg h1n, if_neg h2n, h3, h4]
    rcases pk_ix k (n := n) (by omega) with hk | hk | ⟨j, hj, rfl⟩
    · rw [if_pos hk, zE_in_lo hk]; exact ⟨_, rfl, rfl⟩
    · rw [zE_in_hi hk (by omega), Option.bind_some, if_pos rfl]
      by_cases h0 : k < 0
      · rw [if_pos h0]; exact ⟨_, rfl, rfl⟩
      · rw [if_neg h0, if_pos hk]; exact ⟨_, rfl, rfl⟩
    · rw [if_neg (nI_pos (n := j) (by omega)), if_neg (nI_ge hj (by omega)), zE_in_ok hj (by omega), Option.bind_some, if_neg zE_10, zE_in (by omega) (by decide), zw_g_t, zw_g_t, zE_cl (by omega), h5 j hj]
      exact ⟨_, rfl, rfl⟩
/-- what is LAID -/
def zE_L (I : zI) : Prop := (I 148 70 = 0 ∧ ∀ j, j < 7 → I 141 j = -1) ∨ (I 148 70 = 1 ∧ ∀ j, j < 7 → I 141 j = I 192 j)
theorem zE_laidE {sw : Bool} {I : zI} (h : zE_L I) (k : Int32) : ∃ r, f_X10_laid 1 k I (zE_R sw) = some r ∧ f_X11_laid 148 k I (zE_R sw) = some r := by
  unfold f_X10_laid f_X11_laid
  simp only [zE_gC, zE_gM, zE_rC sw, zE_rM sw, zE_sC, zE_sM, zw_g_t]
  rw [show (6 : Int32) = nI 7 - 1 by decide, show Int32.ofNat 7 = nI 7 from rfl]
  rcases pk_ix k (n := 7) (by omega) with hk | hk | ⟨j, hj, rfl⟩
  · rw [if_pos hk, zE_in_lo hk, Option.bind_some, if_pos rfl]
    refine ⟨_, rfl, ?_⟩
    split <;> rfl
  · rw [zE_in_hi hk (by omega), Option.bind_some, if_pos rfl]
    have e1 : (if k < 0 then some (-1 : Int32) else if nI 7 ≤ k then some (-1) else zw_g (zw_in k 7) (some (I 141 (Int32.toNatClampNeg k)))) = some (-1) := by
      by_cases h0 : k < 0
      · rw [if_pos h0]
      · rw [if_neg h0, if_pos hk]
    refine ⟨_, e1, ?_⟩
    split <;> rfl
  · rw [if_neg (nI_pos (n := j) (by omega)), if_neg (nI_ge hj (by omega)), zE_in_ok hj (by omega), Option.bind_some, if_neg zE_10, zE_in (by omega) (by decide), zw_g_t, zw_g_t, zE_cl (by omega)]
    rcases h with ⟨h1, h2⟩ | ⟨h1, h2⟩
    · rw [if_pos h1, h2 j hj]; exact ⟨_, rfl, rfl⟩
    · rw [if_neg (fun q => zE_10 (h1.symm.trans q)), h2 j hj]; exact ⟨_, rfl, rfl⟩
theorem zE_placeE {sw : Bool} {I : zI} (h : I 7 1 = I 148 17) : ∃ r, f_X10_place 1 I (zE_R sw) = some r ∧ f_X11_place 148 I = some r := by
  unfold f_X10_place f_X11_place
  simp only [zE_gC, zE_gM, zE_rC sw, zw_g_t, h]
  exact ⟨_, rfl, rfl⟩
/-- back -/
theorem zE_backE {sw : Bool} {I : zI} (h : zE_T I) (k : Int32) : ∃ r I1 I2, f_X10_back 1 k I (zE_R sw) = some (r, I1) ∧ f_X11_back 148 k I1 = some (r, I2) ∧ zE_T I2 ∧ (∀ a, a ≠ 2 → a ≠ 148 → I2 a = I a) ∧ (∀ y, y ≠ 1 → I2 2 y = I 2 y) ∧ (∀ y, y ≠ 2 → I2 148 y = I 148 y) := by
  obtain ⟨n, hn, h1, h2, h3⟩ := h
  unfold f_X10_back f_X11_back
  simp only [zE_gC, zE_gM, zE_rC sw, zw_g_t, zw_let_e, h1]
  rcases pk_ix k (n := n + 1) (by omega) with hk | hk | ⟨j, hj, rfl⟩
  · rw [if_pos hk]
    refine ⟨_, _, _, rfl, by rw [if_pos hk], ⟨n, hn, h1, h2, h3⟩, fun _ _ _ => rfl, fun _ _ => rfl, fun _ _ => rfl⟩
  · have hk2 : ¬ k ≤ nI n := by
      have h4 := Int32.le_iff_toInt_le.mp hk
      rw [nI_toInt (by omega)] at h4
      rw [Int32.le_iff_toInt_le, nI_toInt (by omega)]; omega
    by_cases h0 : k < 0
    · rw [if_pos h0]
      exact ⟨_, _, _, rfl, by rw [if_pos h0], ⟨n, hn, h1, h2, h3⟩, fun _ _ _ => rfl, fun _ _ => rfl, fun _ _ => rfl⟩
    · rw [if_neg h0, if_neg hk2]
      exact ⟨_, _, _, rfl, by rw [if_neg h0, h2, if_neg hk2], ⟨n, hn, h1, h2, h3⟩, fun _ _ _ => rfl, fun _ _ => rfl, fun _ _ => rfl⟩
  · have hk2 : nI j ≤ nI n := nI_le (by omega) (by omega)
    have e1 : nI n - nI j = nI (n - j) := pk_sub (by omega)
    rw [if_neg (nI_pos (n := j) (by omega)), if_pos hk2, e1, zE_u1]
    refine ⟨_, _, zw_u (zw_u I 2 1 (nI (n - j))) 148 2 (nI (n - j)), rfl, ?_, ⟨n - j, by omega, ?_, zE_u1 _ _ _ _, fun y hy => ?_⟩, fun a ha hb => ?_, fun y hy => ?_, fun y hy => ?_⟩
    · rw [if_neg (nI_pos (n := j) (by omega)), zE_u2 _ _ (by omega), h2, if_pos hk2, e1, zE_u1]
    · rw [zE_u2 _ _ (by omega), zE_u1]
    · rw [zE_u2 _ _ (by omega), zE_u2 _ _ (by omega), zE_u2 _ _ (by omega), zE_u2 _ _ (by omega)]
      exact h3 y (by omega)
    · rw [zw_u_off _ _ _ hb, zw_u_off _ _ _ ha]
    · rw [zE_u2 _ _ (by omega), zE_u2 _ _ (by omega)]
    · rw [zE_u2 _ _ (by omega), zE_u2 _ _ (by omega)]
def zE_b4 (w : Int32) (i : Nat) : Int32 := if i = 0 then zE_bt w 24 else if i = 1 then zE_bt w 16 else if i = 2 then zE_bt w 8 else zE_bt w 0
theorem zE_ap4_row2 (I : zI) {a o j m : Nat} (w : Int32) (h : a ≠ o) (y : Nat) : zE_ap4 I a o j m w a y = if m ≤ y ∧ y < m + 4 then zE_b4 w (y - m) else I a y := by
  rw [zE_ap4_row I w h]
  by_cases c : m ≤ y ∧ y < m + 4
  · rw [if_pos c]
    unfold zE_b4
    rcases (show y = m ∨ y = m + 1 ∨ y = m + 2 ∨ y = m + 3 by omega) with rfl | rfl | rfl | rfl
    · rw [if_neg (by omega), if_neg (by omega), if_neg (by omega), if_pos rfl, if_pos (by omega)]
    · rw [if_neg (by omega), if_neg (by omega), if_pos rfl, if_neg (by omega), if_pos (by omega)]
    · rw [if_neg (by omega), if_pos rfl, if_neg (by omega), if_neg (by omega), if_pos (by omega)]
    · rw [if_pos rfl, if_neg (by omega), if_neg (by omega), if_neg (by omega)]
  · rw [if_neg c, if_neg (by omega), if_neg (by omega), if_neg (by omega), if_neg (by omega)]
/-- feed -/
theorem zE_feedE {sw : Bool} {I : zI} (h : zE_T I) (w1 w2 w3 w4 w5 : Int32) : ∃ r I1 I2, f_X10_feed 1 w1 w2 w3 w4 w5 I (zE_R sw) = some (r, I1) ∧ f_X11_feed 148 w1 w2 w3 w4 w5 I1 (zE_R sw) = some (r, I2) ∧ zE_T I2 ∧ (∀ a, a ≠ 2 → a ≠ 3 → a ≠ 148 → a ≠ 149 → I2 a = I a) ∧ (∀ y, y ≠ 1 → I2 2 y = I 2 y) ∧ (∀ y, y ≠ 2 → I2 148 y = I 148 y) := by
  obtain ⟨n, hn, h1, h2, h3⟩ := h
  rw [zE_feedC w1 w2 w3 w4 w5 hn h1]
  by_cases hc : n + 20 ≤ 2000
  · rw [if_pos hc]
    have e0 : zE_ap20 I 3 2 1 n w1 w2 w3 w4 w5 148 2 = nI n := by
      unfold zE_ap20
      rw [zE_ap4_off _ _ (by decide) (by decide), zE_ap4_off _ _ (by decide) (by decide), zE_ap4_off _ _ (by decide) (by decide), zE_ap4_off _ _ (by decide) (by decide), zE_ap4_off _ _ (by decide) (by decide), h2]
    refine ⟨_, _, zE_ap20 (zE_ap20 I 3 2 1 n w1 w2 w3 w4 w5) 149 148 2 n w1 w2 w3 w4 w5, rfl, ?_, ⟨n + 20, hc, ?_, ?_, fun y hy => ?_⟩, fun a h4 h5 h6 h7 => ?_, fun y hy => ?_, fun y hy => ?_⟩
    · rw [zE_feedM w1 w2 w3 w4 w5 hn e0, if_pos hc]
    · unfold zE_ap20
      rw [zE_ap4_off _ _ (by decide) (by decide), zE_ap4_off _ _ (by decide) (by decide), zE_ap4_off _ _ (by decide) (by decide), zE_ap4_off _ _ (by decide) (by decide), zE_ap4_off _ _ (by decide) (by decide), zE_ap4_len]
    · unfold zE_ap20
      rw [zE_ap4_len]
    · unfold zE_ap20
      simp only [zE_ap4_off (a := 149) (o := 148) (x := 3) _ _ (by decide) (by decide), zE_ap4_off (a := 3) (o := 2) (x := 149) _ _ (by decide) (by decide), zE_ap4_row2 (a := 3) (o := 2) _ _ (by decide), zE_ap4_row2 (a := 149) (o := 148) _ _ (by decide)]
      by_cases hy2 : y < n
      · rw [h3 y hy2]
      · by_cases c5 : n + 16 ≤ y ∧ y < n + 16 + 4
        · rw [if_pos c5, if_pos c5]
        · rw [if_neg c5, if_neg c5]
          by_cases c4 : n + 12 ≤ y ∧ y < n + 12 + 4
          · rw [if_pos c4, if_pos c4]
          · rw [if_neg c4, if_neg c4]
            by_cases c3 : n + 8 ≤ y ∧ y < n + 8 + 4
            · rw [if_pos c3, if_pos c3]
            · rw [if_neg c3, if_neg c3]
              by_cases c2 : n + 4 ≤ y ∧ y < n + 4 + 4
              · rw [if_pos c2, if_pos c2]
              · rw [if_neg c2, if_neg c2, if_pos (by omega), if_pos (by omega)]
    · unfold zE_ap20
      simp only [zE_ap4_off (a := 149) (o := 148) _ _ h7 h6, zE_ap4_off (a := 3) (o := 2) _ _ h5 h4]
    · unfold zE_ap20
      simp only [zE_ap4_off (a := 149) (o := 148) (x := 2) _ _ (by decide) (by decide), zE_ap4_offo (a := 3) (o := 2) _ _ (by decide) hy]
    · unfold zE_ap20
      simp only [zE_ap4_offo (a := 149) (o := 148) _ _ (by decide) hy, zE_ap4_off (a := 3) (o := 2) (x := 148) _ _ (by decide) (by decide)]
  · rw [if_neg hc]
    exact ⟨_, _, _, rfl, by rw [zE_feedM w1 w2 w3 w4 w5 hn h2, if_neg hc], ⟨n, hn, h1, h2, h3⟩, fun _ _ _ _ _ => rfl, fun _ _ => rfl, fun _ _ => rfl⟩
