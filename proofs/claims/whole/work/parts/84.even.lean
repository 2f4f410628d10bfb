/-! ===== even, count, test, annul ===== -/
/-- a loop that looks through numbers until one doesn't hold -/
theorem zq_ex {step : Int32 → Option (Int32 ⊕ (Unit ⊕ Unit))} (Q : Nat → Prop) (n : Nat) (hn : n < 1000000) (hs : ∀ i, i < n → (Q i ∧ step (nI i) = some (.inl (nI (i + 1)))) ∨ (¬ Q i ∧ step (nI i) = some (.inr (.inr ())))) (he : step (nI n) = some (.inr (.inl ()))) (a : Nat) (ha : a ≤ n) : (zw_it step 1000000 (nI a) = some (.inl ()) ∧ ∀ i, a ≤ i → i < n → Q i) ∨ (zw_it step 1000000 (nI a) = some (.inr ()) ∧ ∃ i, a ≤ i ∧ i < n ∧ ¬ Q i) := by
  obtain ⟨r, h1, h2⟩ := zE_for (step := step) (fun i s => s = nI i ∧ a ≤ i ∧ ∀ j, a ≤ j → j < i → Q j) (fun r => (r = .inl () ∧ ∀ i, a ≤ i → i < n → Q i) ∨ (r = .inr () ∧ ∃ i, a ≤ i ∧ i < n ∧ ¬ Q i)) n (by
    rintro i s hi ⟨rfl, h3, h4⟩
    rcases hs i hi with ⟨h5, h6⟩ | ⟨h5, h6⟩
    · refine Or.inl ⟨_, h6, rfl, by omega, fun j hj hj2 => ?_⟩
      by_cases hji : j = i
      · rw [hji]; exact h5
      · exact h4 j hj (by omega)
    · exact Or.inr ⟨_, h6, Or.inr ⟨rfl, i, h3, hi, h5⟩⟩) (by
    rintro s ⟨rfl, h3, h4⟩
    exact ⟨_, he, Or.inl ⟨rfl, h4⟩⟩) a (nI a) ha hn ⟨rfl, Nat.le_refl _, fun j h5 h6 => by omega⟩
  rcases h2 with ⟨rfl, h2⟩ | ⟨rfl, h2⟩
  · exact Or.inl ⟨h1, h2⟩
  · exact Or.inr ⟨h1, h2⟩
theorem zq_ex0 {step : Int32 → Option (Int32 ⊕ (Unit ⊕ Unit))} (Q : Nat → Prop) (n : Nat) (hn : n < 1000000) (hs : ∀ i, i < n → (Q i ∧ step (nI i) = some (.inl (nI (i + 1)))) ∨ (¬ Q i ∧ step (nI i) = some (.inr (.inr ())))) (he : step (nI n) = some (.inr (.inl ()))) : (zw_it step 1000000 0 = some (.inl ()) ∧ ∀ i, i < n → Q i) ∨ (zw_it step 1000000 0 = some (.inr ()) ∧ ∃ i, i < n ∧ ¬ Q i) := by
  rcases zq_ex Q n hn hs he 0 (Nat.zero_le _) with ⟨h1, h2⟩ | ⟨h1, i, -, h3, h4⟩
  · exact Or.inl ⟨h1, fun i hi => h2 i (Nat.zero_le _) hi⟩
  · exact Or.inr ⟨h1, i, h3, h4⟩
def zq_mi (c : Nat) : Nat := if c = 1 then 2 else if c = 2 then 1 else if c = 3 then 4 else if c = 4 then 3 else c
theorem zq_mi1 : ∀ c, c < 7 → (zw_sl 4).getD c 0 = nI (zq_mi c) ∧ f_X11_mirrored (nI c) = some (nI (zq_mi c)) ∧ zq_mi c < 7 := by decide +kernel
def zq_Em (d : zq_D) (y x : Nat) : Prop := d.c x y = zq_mi (d.c (d.w - 1 - x) y)
theorem zq_ws {w x : Nat} (hx : x < w) : nI w - 1 - nI x = nI (w - 1 - x) := by
  rw [show (1 : Int32) = nI 1 from rfl, pk_sub (by omega), pk_sub (by omega)]
theorem zq_mirC {sw : Bool} {I : zI} {o : Nat} {d : zq_D} (hr : zq_dr sw o) (ok : zq_ok d) (dc : zq_DC I o d) : (f_X0_isMirrored o I (zE_R sw) = some 1 ∧ ∀ y, y < d.t → ∀ x, x < d.w → zq_Em d y x) ∨ (f_X0_isMirrored o I (zE_R sw) = some 0 ∧ ¬ ∀ y, y < d.t → ∀ x, x < d.w → zq_Em d y x) := by
  have w2 := ok.w2
  have t2 := ok.t2
  have inner : ∀ y, y < d.t → (zw_it (s_X0_isMirrored_12 o (nI y) I (zE_R sw)) 1000000 0 = some (.inl ()) ∧ ∀ x, x < d.w → zq_Em d y x) ∨ (zw_it (s_X0_isMirrored_12 o (nI y) I (zE_R sw)) 1000000 0 = some (.inr ()) ∧ ∃ x, x < d.w ∧ ¬ zq_Em d y x) := by
    intro y hy
    refine zq_ex0 (zq_Em d y) d.w (by omega) (fun x hx => ?_) ?_
    · have c1 := ok.c6 x y
      have c2 := ok.c6 (d.w - 1 - x) y
      have hm := zq_mi1 (d.c (d.w - 1 - x) y) (by omega)
      unfold s_X0_isMirrored_12
      simp only [hr.1, zw_g_t, dc.w, if_neg (nI_ge hx (by omega)), zq_ws hx, zq_cC hr ok dc, Option.bind_some, zq_at_in hx hy w2 t2, zq_at_in (show d.w - 1 - x < d.w by omega) hy w2 t2, zq_t7, zE_in (k := d.c (d.w - 1 - x) y) (n := 7) (by omega) (by decide), zE_cl (k := d.c (d.w - 1 - x) y) (by omega), hm.1, zw_let_e, nI_1]
      by_cases h : zq_Em d y x
      · refine Or.inl ⟨h, ?_⟩
        unfold zq_Em at h
        rw [if_pos (by rw [h])]
      · refine Or.inr ⟨h, ?_⟩
        rw [if_neg]
        intro q
        exact h ((nI_eq (by omega) (by omega)).mp q)
    · unfold s_X0_isMirrored_12
      simp only [hr.1, zw_g_t, dc.w, if_pos (nI_le (Nat.le_refl d.w) (by omega))]
  have outer := zq_ex0 (step := s_X0_isMirrored_2 o I (zE_R sw)) (fun y => ∀ x, x < d.w → zq_Em d y x) d.t (by omega) (fun y hy => by
    unfold s_X0_isMirrored_2
    simp only [hr.1, zw_g_t, dc.t, if_neg (nI_ge hy (by omega)), zw_let_e, nI_1]
    rcases inner y hy with ⟨h1, h2⟩ | ⟨h1, x, h2, h3⟩
    · rw [h1]; exact Or.inl ⟨h2, rfl⟩
    · rw [h1]; exact Or.inr ⟨fun q => h3 (q x h2), rfl⟩) (by
    unfold s_X0_isMirrored_2
    simp only [hr.1, zw_g_t, dc.t, if_pos (nI_le (Nat.le_refl d.t) (by omega))])
  unfold f_X0_isMirrored
  rcases outer with ⟨h1, h2⟩ | ⟨h1, y, h2, h3⟩
  · rw [h1]; exact Or.inl ⟨rfl, h2⟩
  · rw [h1]; exact Or.inr ⟨rfl, fun q => h3 (q y h2)⟩
theorem zq_mirM {sw : Bool} {I : zI} {k : Nat} {d : zq_D} (hk : k < 20) (ok : zq_ok d) (dm : zq_DM I k d) : (zw_it (s_X11_even_15 148 (nI k) I (zE_R sw)) 1000000 0 = some (.inl ()) ∧ ∀ y, y < d.t → ∀ x, x < d.w → zq_Em d y x) ∨ (zw_it (s_X11_even_15 148 (nI k) I (zE_R sw)) 1000000 0 = some (.inr ()) ∧ ¬ ∀ y, y < d.t → ∀ x, x < d.w → zq_Em d y x) := by
  have w2 := ok.w2
  have t2 := ok.t2
  have inner : ∀ y, y < d.t → (zw_it (s_X11_even_28 148 (nI k) (nI y) I (zE_R sw)) 1000000 0 = some (.inl ()) ∧ ∀ x, x < d.w → zq_Em d y x) ∨ (zw_it (s_X11_even_28 148 (nI k) (nI y) I (zE_R sw)) 1000000 0 = some (.inr ()) ∧ ∃ x, x < d.w ∧ ¬ zq_Em d y x) := by
    intro y hy
    refine zq_ex0 (zq_Em d y) d.w (by omega) (fun x hx => ?_) ?_
    · have c1 := ok.c6 x y
      have c2 := ok.c6 (d.w - 1 - x) y
      have hm := zq_mi1 (d.c (d.w - 1 - x) y) (by omega)
      unfold s_X11_even_28
      simp only [zE_gM, zE_rM sw, zE_sM, zw_g_t, zE_in (k := k) (n := 20) hk (by decide), zE_cl (k := k) (by omega), dm.w, if_neg (nI_ge hx (by omega)), zq_ws hx, zq_cM hk ok dm, Option.bind_some, zq_at_in hx hy w2 t2, zq_at_in (show d.w - 1 - x < d.w by omega) hy w2 t2, hm.2.1, zw_let_e, nI_1]
      by_cases h : zq_Em d y x
      · refine Or.inl ⟨h, ?_⟩
        unfold zq_Em at h
        rw [if_pos (by rw [h])]
      · refine Or.inr ⟨h, ?_⟩
        rw [if_neg]
        intro q
        exact h ((nI_eq (by omega) (by omega)).mp q)
    · unfold s_X11_even_28
      simp only [zE_gM, zE_rM sw, zE_sM, zw_g_t, zE_in (k := k) (n := 20) hk (by decide), zE_cl (k := k) (by omega), dm.w, if_pos (nI_le (Nat.le_refl d.w) (by omega))]
  have outer := zq_ex0 (step := s_X11_even_15 148 (nI k) I (zE_R sw)) (fun y => ∀ x, x < d.w → zq_Em d y x) d.t (by omega) (fun y hy => by
    unfold s_X11_even_15
    simp only [zE_gM, zE_rM sw, zE_sM, zw_g_t, zE_in (k := k) (n := 20) hk (by decide), zE_cl (k := k) (by omega), dm.t, if_neg (nI_ge hy (by omega)), zw_let_e, nI_1]
    rcases inner y hy with ⟨h1, h2⟩ | ⟨h1, x, h2, h3⟩
    · rw [h1]; exact Or.inl ⟨h2, rfl⟩
    · rw [h1]; exact Or.inr ⟨fun q => h3 (q x h2), rfl⟩) (by
    unfold s_X11_even_15
    simp only [zE_gM, zE_rM sw, zE_sM, zw_g_t, zE_in (k := k) (n := 20) hk (by decide), zE_cl (k := k) (by omega), dm.t, if_pos (nI_le (Nat.le_refl d.t) (by omega))])
  rcases outer with ⟨h1, h2⟩ | ⟨h1, y, h2, h3⟩
  · exact Or.inl ⟨h1, h2⟩
  · exact Or.inr ⟨h1, fun q => h3 (q y h2)⟩
/-- the class's references to a cut, a rough, a stuff -/
theorem zq_refC (b : Bool) {j : Nat} (hj : j < 6) : zE_R b 1 2 = zE_h b ∧ zE_R b (zE_h b) 2 = zE_h b + 2 ∧ zE_R b (zE_h b + 2) j = zE_h b + (21 + 2 * j) ∧ zw_gc (zE_h b) 1 = true ∧ zw_gc (zE_h b + 2) 16 = true ∧ zw_SH (zE_h b + 2) = (16, 6) := ⟨(zE_rh b).1, (zE_rH b b).2.1, zE_rHc b b j hj, (zE_gH b).1, (zE_gH b).2.2.1, (zE_sH b).2.2.1⟩
theorem zq_refR (b : Bool) {j : Nat} (hj : j < 4) : zE_R b (zE_h b) 4 = zE_h b + 3 ∧ zE_R b (zE_h b + 3) j = zE_h b + (21 + 2 * (6 + j)) ∧ zw_gc (zE_h b + 3) 16 = true ∧ zw_SH (zE_h b + 3) = (16, 4) := ⟨(zE_rH b b).2.2.1, (zE_rHr b b j hj).trans (by omega), (zE_gH b).2.2.2.1, (zE_sH b).2.2.2.1⟩
theorem zq_refS (b : Bool) {j : Nat} (hj : j < 4) : zE_R b (zE_h b) 0 = zE_h b + 1 ∧ zE_R b (zE_h b + 1) j = zE_h b + (9 + 3 * j) ∧ zw_gc (zE_h b + 1) 18 = true ∧ zw_SH (zE_h b + 1) = (18, 4) := ⟨(zE_rH b b).1, zE_rHs b b j hj, (zE_gH b).2.1, (zE_sH b).2.1⟩
/-- even -/
theorem zq_evenE {b : Bool} {I : zI} {H : zq_H} (hK : zq_HK H) (hC : zq_HC b I H) (hM : zq_HM b I H) (k : Int32) : ∃ r, f_X10_even 1 k I (zE_R b) = some r ∧ f_X11_even 148 k I (zE_R b) = some r := by
  have k2 := hK.2.1
  have hl := zq_lv1 b
  unfold f_X10_even f_X11_even
  simp only [zE_gC, zE_gM, zw_g_t]
  rcases zq_isCut hK hC k with ⟨h1, h2⟩ | ⟨j, hj, rfl, h2⟩
  · rw [h2, (zq_cutRow hK hM k).1 h1]; exact ⟨_, rfl, rfl⟩
  · rw [h2, (zq_cutRow hK hM (nI j)).2 j hj rfl]
    have ok := hK.2.2.2.2 j (Or.inl hj)
    obtain ⟨dc, -⟩ := hC.2.2.2.2 j (Or.inl hj)
    have dm := hM.2.2.2.2.2 j (Or.inl hj)
    have hr := zq_drk b b j (by omega)
    obtain ⟨r1, r2, r3, g1, g2, s2⟩ := zq_refC b (j := j) (by omega)
    simp only [Option.bind_some, if_pos zE_10, r1, r2, r3, g1, g2, s2, zw_g_t, zE_cl (k := j) (by omega), zE_in (k := j) (n := 6) (by omega) (by decide), hr.1, if_pos (zq_nm1 (n := 10 * zq_lv b + j) (by omega))]
    rcases zq_mirC hr ok dc with ⟨c1, c2⟩ | ⟨c1, c2⟩ <;> rcases zq_mirM (sw := b) (k := 10 * zq_lv b + j) (by omega) ok dm with ⟨m1, m2⟩ | ⟨m1, m2⟩
    · rw [c1, m1]; exact ⟨_, rfl, rfl⟩
    · exact absurd c2 m2
    · exact absurd m2 c2
    · rw [c1, m1]; exact ⟨_, rfl, rfl⟩
/-- grades' and prices' counts -/
def zq_NR (b : Bool) (I : zI) (ng np : Nat) : Prop := I (zE_h b) 7 = nI ng ∧ I (zE_h b) 9 = nI np ∧ I 167 (zq_lv b) = nI ng ∧ I 168 (zq_lv b) = nI np
/-- TESTS and VOIDS: the number of the one that is void, or -1 and cut, colour, bright -/
def zq_TE (I : zI) (n : Nat) (H : zq_H) : Prop := n ≤ 60 ∧ I 142 0 = nI n ∧ I 148 75 = nI n ∧ ∀ j, j < n → I 146 j = I 196 j ∧ ((∃ q, q < n ∧ I 146 j = nI q) ∨ (I 146 j = -1 ∧ ∃ c co br, c < H.nc ∧ co < 4 ∧ br ≤ 100000 ∧ I 143 j = nI c ∧ I 197 j = nI c ∧ I 144 j = nI co ∧ I 198 j = nI co ∧ I 145 j = nI br ∧ I 199 j = nI br))
theorem zq_row0 {b : Bool} {I : zI} {k : Int32} {q : Int32} (h : f_X11_row 148 0 k I (zE_R b) = some q) : f_X11_cutRow 148 k I (zE_R b) = some q := by
  unfold f_X11_row at h
  rw [if_pos rfl] at h
  simp only [zE_gM, zw_g_t] at h
  cases hq : f_X11_cutRow 148 k I (zE_R b) with
  | none => rw [hq] at h; cases h
  | some x => rw [hq] at h; exact h
theorem zq_row1 {b : Bool} {I : zI} {k : Int32} {q : Int32} (h : f_X11_row 148 1 k I (zE_R b) = some q) : f_X11_roughRow 148 k I (zE_R b) = some q := by
  unfold f_X11_row at h
  rw [if_neg zE_10] at h
  simp only [zE_gM, zw_g_t] at h
  cases hq : f_X11_roughRow 148 k I (zE_R b) with
  | none => rw [hq] at h; cases h
  | some x => rw [hq] at h; exact h
/-- count -/
theorem zq_countE {b : Bool} {I : zI} {H : zq_H} {ng np nt : Nat} (hK : zq_HK H) (hC : zq_HC b I H) (hM : zq_HM b I H) (hN : zq_NR b I ng np) (hU : zq_TE I nt H) (hT : zE_T I) (v : Int32) : ∃ r, f_X10_count 1 v I (zE_R b) = some r ∧ f_X11_count 148 v I (zE_R b) = some r := by
  have hl := zq_lv1 b
  obtain ⟨n, -, t1, t2, -⟩ := hT
  unfold f_X10_count f_X11_count
  simp only [zE_gC, zE_gM, zE_rC b, zE_rM b, zE_sM, zE_rh b, zE_gH b, zw_g_t, zw_let_e, hM.1, zE_in (k := zq_lv b) (n := 2) hl (by decide), zE_cl (k := zq_lv b) (by omega), hC.1, hC.2.1, hC.2.2.1, hM.2.1, hM.2.2.1, hM.2.2.2.1, hN.1, hN.2.1, hN.2.2.1, hN.2.2.2, hU.2.1, hU.2.2.1, t1, t2]
  by_cases c0 : v = 0
  · rw [if_pos c0, if_pos c0]; exact ⟨_, rfl, rfl⟩
  rw [if_neg c0, if_neg c0]
  by_cases c1 : v = 1
  · rw [if_pos c1, if_pos c1]; exact ⟨_, rfl, rfl⟩
  rw [if_neg c1, if_neg c1]
  by_cases c2 : v = 2
  · rw [if_pos c2, if_pos c2]; exact ⟨_, rfl, rfl⟩
  rw [if_neg c2, if_neg c2]
  by_cases c3 : v = 3
  · rw [if_pos c3, if_pos c3]; exact ⟨_, rfl, rfl⟩
  rw [if_neg c3, if_neg c3]
  by_cases c4 : v = 4
  · rw [if_pos c4, if_pos c4]; exact ⟨_, rfl, rfl⟩
  rw [if_neg c4, if_neg c4]
  by_cases c5 : v = 5
  · rw [if_pos c5, if_pos c5]; exact ⟨_, rfl, rfl⟩
  rw [if_neg c5, if_neg c5]
  by_cases c6 : v = 6
  · rw [if_pos c6, if_pos c6]; exact ⟨_, rfl, rfl⟩
  rw [if_neg c6, if_neg c6]
  unfold f_X10_measure
  by_cases c7 : v < 10
  · rw [if_pos c7, if_pos c7]; exact ⟨_, rfl, rfl⟩
  rw [if_neg c7, if_neg c7]
  obtain ⟨m, hm, rfl⟩ := nI_of (x := v) (fun q => c7 (by
    rw [Int32.lt_iff_toInt_lt] at q ⊢
    rw [show (0 : Int32).toInt = 0 by decide] at q
    rw [show (10 : Int32).toInt = 10 by decide]; omega))
  have d1 : nI m / 10 = nI (m / 10) := pk_div hm (by decide) (by decide)
  have d2 : nI m - nI (m / 10) * 10 = nI (m % 10) := by rw [← d1]; exact pk_rem hm (by decide) (by decide)
  rw [d1]
  by_cases c8 : m < 50
  · rw [if_pos (show nI m < 50 from (nI_ltI hm (b := 50) (by decide)).mpr c8), if_pos (show nI (m / 10) ≤ 4 from (nI_leI (by omega) (b := 4) (by decide)).mpr (by omega))]
    have d3 : (¬ nI (m / 10) - nI (m / 10) / 2 * 2 = 1) ↔ ¬ m / 10 % 2 = 1 := by
      rw [show nI (m / 10) - nI (m / 10) / 2 * 2 = nI (m / 10 % 2) from pk_rem (by omega) (by decide) (by decide)]
      exact not_congr (nI_eq (b := 1) (by omega) (by decide))
    have key : ∀ vv : Int32, vv = 0 ∨ vv = 1 → ∀ row : Option Int32, (∀ q, f_X11_row 148 vv (nI (m % 10)) I (zE_R b) = some q → row = some q) → ∃ r, (j_X10_measure_25 1 (nI m) vv I (zE_R b)).bind some = some r ∧ (row.bind fun q30 => j_X11_count_146 148 (nI (m / 10)) q30 I (zE_R b)) = some r := by
      intro vv hv row hrow
      unfold j_X10_measure_25
      simp only [zw_let_e, d1, d2, zE_gC, zw_g_t]
      rcases zq_draw hK hC hM vv (nI (m % 10)) hv with ⟨h1, h2⟩ | ⟨j, hj, h1, h2, h3⟩
      · rw [h1, hrow _ h2]
        unfold j_X11_count_146
        exact ⟨_, rfl, rfl⟩
      · have hj10 := zq_has10 hK hj
        obtain ⟨dc, -⟩ := hC.2.2.2.2 j hj
        have dm := hM.2.2.2.2.2 j hj
        have hr := zq_drk b b j hj10
        rw [h1, hrow _ h3]
        unfold j_X11_count_146 j_X10_measure_57
        simp only [Option.bind_some, if_pos zE_10, if_pos (zq_nm1 (n := 10 * zq_lv b + j) (by omega)), d3, h2, zE_gC, zE_gM, zE_rM b, zE_sM, zw_g_t, hr.1, zE_in (k := 10 * zq_lv b + j) (n := 20) (by omega) (by decide), zE_cl (k := 10 * zq_lv b + j) (by omega), dm.w, dm.t, dc.w, dc.t]
        by_cases c9 : m / 10 % 2 = 1
        · simp [c9]
        · simp [c9]
    by_cases c10 : m < 30
    · rw [if_pos (show nI m < 30 from (nI_ltI hm (b := 30) (by decide)).mpr c10), if_neg (show ¬ 3 ≤ nI (m / 10) from fun q => absurd ((nI_leI (a := 3) (by decide) (by omega)).mp q) (by omega)), d2]
      exact key 0 (Or.inl rfl) _ (fun q h => zq_row0 h)
    · rw [if_neg (show ¬ nI m < 30 from fun q => c10 ((nI_ltI hm (b := 30) (by decide)).mp q)), if_pos (show 3 ≤ nI (m / 10) from (nI_leI (a := 3) (by decide) (by omega)).mpr (by omega)), d2]
      exact key 1 (Or.inr rfl) _ (fun q h => zq_row1 h)
  · rw [if_neg (show ¬ nI m < 50 from fun q => c8 ((nI_ltI hm (b := 50) (by decide)).mp q)), if_neg (show ¬ nI (m / 10) ≤ 4 from fun q => c8 (by have := (nI_leI (by omega) (b := 4) (by decide)).mp q; omega))]
    exact ⟨_, rfl, rfl⟩
/-- test, annul -/
theorem zq_testC {b : Bool} {I : zI} {n : Nat} (h1 : I 142 0 = nI n) (hn : n < 60) (v1 v2 v3 : Int32) : f_X9_addTest 142 v1 v2 v3 I (zE_R b) = some (nI n, zw_u (zw_u (zw_u (zw_u (zw_u I 143 n v1) 144 n v2) 145 n v3) 146 n (-1)) 142 0 (nI (n + 1))) := by
  unfold f_X9_addTest
  simp only [zE_gC, zE_rC b, zE_sC, zw_g_t, zw_let_e, h1, if_pos (show nI n < 60 from (nI_ltI (by omega) (b := 60) (by decide)).mpr hn), zE_in (k := n) (n := 60) hn (by decide), zE_cl (k := n) (by omega), zw_u_off _ _ _ (show (142 : Nat) ≠ 143 by decide), zw_u_off _ _ _ (show (142 : Nat) ≠ 144 by decide), zw_u_off _ _ _ (show (142 : Nat) ≠ 145 by decide), zw_u_off _ _ _ (show (142 : Nat) ≠ 146 by decide), zE_u1, nI_1, nI_pred]
theorem zq_testM {b : Bool} {I : zI} {n : Nat} (h1 : I 148 75 = nI n) (hn : n < 60) (k v1 v2 v3 : Int32) (hk : f_X11_cutRow 148 v1 I (zE_R b) = some k) (hk1 : ¬ k = -1) (hc : f_X11_isColour v2 = some 1) (hl : f_X11_in v3 0 100000 = some 1) : f_X11_test 148 v1 v2 v3 I (zE_R b) = some (nI n, zw_u (zw_u (zw_u (zw_u (zw_u I 196 n (-1)) 197 n v1) 198 n v2) 199 n v3) 148 75 (nI (n + 1))) := by
  unfold f_X11_test
  simp only [zE_gM, zE_rM b, zE_sM, zw_g_t, zw_let_e, h1, if_neg (show ¬ nI n = 60 from fun q => absurd ((nI_eq (by omega) (b := 60) (by decide)).mp q) (by omega)), hk, if_neg hk1, hc, hl, Option.bind_some, if_neg zE_10, if_pos zE_10, zE_in (k := n) (n := 60) hn (by decide), zE_cl (k := n) (by omega), zw_u_off _ _ _ (show (148 : Nat) ≠ 196 by decide), zw_u_off _ _ _ (show (148 : Nat) ≠ 197 by decide), zw_u_off _ _ _ (show (148 : Nat) ≠ 198 by decide), zw_u_off _ _ _ (show (148 : Nat) ≠ 199 by decide), zE_u1, nI_1, nI_pred]
def zq_oTest (I2 I : zI) : Prop := (∀ a, (a < 142 ∨ 146 < a) → a ≠ 148 → (a < 196 ∨ 199 < a) → I2 a = I a) ∧ ∀ y, y ≠ 75 → I2 148 y = I 148 y
theorem zq_oTest_r (I : zI) : zq_oTest I I := ⟨fun _ _ _ _ => rfl, fun _ _ => rfl⟩
theorem zq_lampIn2 (v : Int32) : ((v < 0 ∨ ¬ v ≤ 100000) ∧ f_X11_in v 0 100000 = some 0) ∨ ∃ a, a ≤ 100000 ∧ v = nI a ∧ f_X11_in v 0 100000 = some 1 := by
  by_cases h : v < 0
  · exact Or.inl ⟨Or.inl h, zE_in_lo h⟩
  · by_cases h2 : v ≤ 100000
    · obtain ⟨j, hj, rfl⟩ := nI_of2 (x := v) (M := 100000) (n := 100000) (by decide) h h2
      exact Or.inr ⟨j, hj, rfl, zE_in_ok (n := 100001) (by omega) (by decide)⟩
    · refine Or.inl ⟨Or.inr h2, ?_⟩
      unfold f_X11_in
      rw [if_neg h, if_pos]
      rw [Int32.le_iff_toInt_le] at h2
      rw [Int32.lt_iff_toInt_lt]; omega
theorem zq_testE {b : Bool} {I : zI} {H : zq_H} {nt : Nat} (hK : zq_HK H) (hC : zq_HC b I H) (hM : zq_HM b I H) (hU : zq_TE I nt H) (v1 v2 v3 : Int32) : ∃ r I1 I2 nt2, f_X10_test 1 v1 v2 v3 I (zE_R b) = some (r, I1) ∧ f_X11_test 148 v1 v2 v3 I1 (zE_R b) = some (r, I2) ∧ zq_TE I2 nt2 H ∧ zq_oTest I2 I := by
  have k2 := hK.2.1
  have hl := zq_lv1 b
  have bad : f_X10_test 1 v1 v2 v3 I (zE_R b) = some (-1, I) → f_X11_test 148 v1 v2 v3 I (zE_R b) = some (-1, I) → ∃ r I1 I2 nt2, f_X10_test 1 v1 v2 v3 I (zE_R b) = some (r, I1) ∧ f_X11_test 148 v1 v2 v3 I1 (zE_R b) = some (r, I2) ∧ zq_TE I2 nt2 H ∧ zq_oTest I2 I := fun h1 h2 => ⟨_, _, _, nt, h1, h2, hU, zq_oTest_r I⟩
  obtain ⟨hn, u1, u2, u3⟩ := id hU
  by_cases h60 : nt = 60
  · subst h60
    have hM1 : f_X11_test 148 v1 v2 v3 I (zE_R b) = some (-1, I) := by
      unfold f_X11_test
      simp only [zE_gM, zw_g_t, u2]
      rw [if_pos (show nI 60 = 60 from rfl)]
    refine bad ?_ hM1
    unfold f_X10_test f_X9_addTest
    simp only [zE_gC, zE_rC b, zw_g_t, u1]
    rcases zq_isCut hK hC v1 with ⟨-, h2⟩ | ⟨j, hj, rfl, h2⟩
    · rw [h2]; rfl
    · rw [h2, Option.bind_some, if_neg zE_10]
      rcases zq_col v2 with ⟨-, h3, -⟩ | ⟨c, hc, rfl, h3, -⟩
      · rw [h3]; rfl
      · rw [h3, Option.bind_some, if_neg zE_10, if_neg (show ¬ nI 60 < 60 by decide)]
        split
        · rfl
        · split <;> rfl
  · unfold f_X10_test
    simp only [zE_gC, zE_rC b, zw_g_t]
    rcases zq_isCut hK hC v1 with ⟨h1, h2⟩ | ⟨j, hj, rfl, h2⟩
    · rw [h2]
      refine ⟨_, _, _, nt, rfl, ?_, hU, zq_oTest_r I⟩
      unfold f_X11_test
      simp only [zE_gM, zw_g_t, u2]
      rw [(zq_cutRow hK hM v1).1 h1]
      split <;> rfl
    · rw [h2, Option.bind_some, if_neg zE_10]
      have hr := (zq_cutRow hK hM (nI j)).2 j hj rfl
      have hm1 := zq_nm1 (n := 10 * zq_lv b + j) (by omega)
      rcases zq_col v2 with ⟨-, h3, h4⟩ | ⟨c, hc, rfl, h3, h4⟩
      · rw [h3]
        refine ⟨_, _, _, nt, rfl, ?_, hU, zq_oTest_r I⟩
        unfold f_X11_test
        simp only [zE_gM, zw_g_t, u2, hr, h4, Option.bind_some, if_neg hm1]
        split <;> rfl
      · rw [h3, Option.bind_some, if_neg zE_10]
        rcases zq_lampIn2 v3 with ⟨h5, h6⟩ | ⟨a, ha, rfl, h6⟩
        · have e : (if v3 < 0 then some ((-1 : Int32), I) else if v3 ≤ 100000 then (f_X9_addTest 142 (nI j) (nI c) v3 I (zE_R b)).bind fun q9 => some (q9.1, q9.2) else some (-1, I)) = some (-1, I) := by
            rcases h5 with h5 | h5
            · rw [if_pos h5]
            · rw [if_neg h5]; split <;> rfl
          rw [e]
          refine ⟨_, _, _, nt, rfl, ?_, hU, zq_oTest_r I⟩
          unfold f_X11_test
          simp only [zE_gM, zw_g_t, u2, hr, h4, h6, Option.bind_some, if_neg hm1, if_neg zE_10]
          split <;> rfl
        · rw [if_neg (nI_pos (n := a) (by omega)), if_pos (show nI a ≤ 100000 from (nI_leI (by omega) (b := 100000) (by decide)).mpr ha), zq_testC u1 (by omega), Option.bind_some]
          obtain ⟨I1, e1⟩ : ∃ I1, I1 = zw_u (zw_u (zw_u (zw_u (zw_u I 143 nt (nI j)) 144 nt (nI c)) 145 nt (nI a)) 146 nt (-1)) 142 0 (nI (nt + 1)) := ⟨_, rfl⟩
          have o1 : ∀ x, (x < 142 ∨ 146 < x) → I1 x = I x := by
            intro x hx
            rw [e1, zw_u_off _ _ _ (by omega), zw_u_off _ _ _ (by omega), zw_u_off _ _ _ (by omega), zw_u_off _ _ _ (by omega), zw_u_off _ _ _ (by omega)]
          have hr1 : f_X11_cutRow 148 (nI j) I1 (zE_R b) = some (nI (10 * zq_lv b + j)) := (zq_cutRow hK (zq_HM_tr hM (fun x q1 q2 => o1 x (by omega)) (by rw [o1 148 (by omega)])) (nI j)).2 j hj rfl
          have u21 : I1 148 75 = nI nt := by rw [o1 148 (by omega)]; exact u2
          rw [← e1]
          refine ⟨_, _, _, nt + 1, rfl, zq_testM u21 (by omega) _ _ _ _ hr1 hm1 h4 h6, ⟨by omega, ?_, zE_u1 _ _ _ _, fun y hy => ?_⟩, fun x q1 q2 q3 => ?_, fun y hy => ?_⟩
          · rw [zE_u2 _ _ (by omega), zE_u2 _ _ (by omega), zE_u2 _ _ (by omega), zE_u2 _ _ (by omega), zE_u2 _ _ (by omega), e1, zE_u1]
          · have rC : ∀ x, x ≠ 148 → (x < 196 ∨ 199 < x) → zw_u (zw_u (zw_u (zw_u (zw_u I1 196 nt (-1)) 197 nt (nI j)) 198 nt (nI c)) 199 nt (nI a)) 148 75 (nI (nt + 1)) x = I1 x := by
              intro x q1 q2
              rw [zw_u_off _ _ _ (by omega), zw_u_off _ _ _ (by omega), zw_u_off _ _ _ (by omega), zw_u_off _ _ _ (by omega), zw_u_off _ _ _ (by omega)]
            rw [rC 146 (by decide) (by decide), rC 143 (by decide) (by decide), rC 144 (by decide) (by decide), rC 145 (by decide) (by decide)]
            by_cases hyn : y = nt
            · subst hyn
              simp [zw_u, e1]
              exact Or.inr ⟨j, hj, c, hc, a, ha, rfl, rfl, rfl⟩
            · obtain ⟨z1, z2⟩ := u3 y (by omega)
              have e196 : ∀ x, 196 ≤ x → x ≤ 199 → zw_u (zw_u (zw_u (zw_u (zw_u I1 196 nt (-1)) 197 nt (nI j)) 198 nt (nI c)) 199 nt (nI a)) 148 75 (nI (nt + 1)) x y = I x y := by
                intro x q1 q2
                rw [zE_u2 _ _ (by omega), zE_u2 _ _ (by omega), zE_u2 _ _ (by omega), zE_u2 _ _ (by omega), zE_u2 _ _ (by omega), o1 x (by omega)]
              have e14 : ∀ x, 143 ≤ x → x ≤ 146 → I1 x y = I x y := by
                intro x q1 q2
                rw [e1, zE_u2 _ _ (by omega), zE_u2 _ _ (by omega), zE_u2 _ _ (by omega), zE_u2 _ _ (by omega), zE_u2 _ _ (by omega)]
              rw [e196 196 (by omega) (by omega), e196 197 (by omega) (by omega), e196 198 (by omega) (by omega), e196 199 (by omega) (by omega), e14 146 (by omega) (by omega), e14 143 (by omega) (by omega), e14 144 (by omega) (by omega), e14 145 (by omega) (by omega)]
              refine ⟨z1, ?_⟩
              rcases z2 with ⟨q, q1, q2⟩ | z2
              · exact Or.inl ⟨q, by omega, q2⟩
              · exact Or.inr z2
          · rw [zw_u_off _ _ _ (by omega), zw_u_off _ _ _ (by omega), zw_u_off _ _ _ (by omega), zw_u_off _ _ _ (by omega), zw_u_off _ _ _ (by omega), o1 x (by omega)]
          · rw [zE_u2 _ _ (by omega), zE_u2 _ _ (by omega), zE_u2 _ _ (by omega), zE_u2 _ _ (by omega), zE_u2 _ _ (by omega), o1 148 (by omega)]
theorem zq_annulE {b : Bool} {I : zI} {H : zq_H} {nt : Nat} (hU : zq_TE I nt H) (v : Int32) : ∃ r I1 I2 nt2, f_X10_annul 1 v I (zE_R b) = some (r, I1) ∧ f_X11_annul 148 v I1 (zE_R b) = some (r, I2) ∧ zq_TE I2 nt2 H ∧ zq_oTest I2 I := by
  obtain ⟨hn, u1, u2, u3⟩ := id hU
  have bad : f_X10_annul 1 v I (zE_R b) = some (-1, I) → f_X11_annul 148 v I (zE_R b) = some (-1, I) → ∃ r I1 I2 nt2, f_X10_annul 1 v I (zE_R b) = some (r, I1) ∧ f_X11_annul 148 v I1 (zE_R b) = some (r, I2) ∧ zq_TE I2 nt2 H ∧ zq_oTest I2 I := fun h1 h2 => ⟨_, _, _, nt, h1, h2, hU, zq_oTest_r I⟩
  by_cases h60 : nt = 60
  · subst h60
    refine bad ?_ ?_
    · unfold f_X10_annul f_X9_addVoid
      simp only [zE_gC, zE_rC b, zw_g_t, u1]
      rw [if_pos (show (60 : Int32) ≤ nI 60 by decide)]
      rfl
    · unfold f_X11_annul
      simp only [zE_gM, zw_g_t, u2]
      rw [if_pos (show nI 60 = 60 from rfl)]
  · have hA : ¬ (60 : Int32) ≤ nI nt := nI_ge (b := 60) (by omega) (by decide)
    have hB : ¬ nI nt = 60 := fun q => h60 ((nI_eq (by omega) (b := 60) (by decide)).mp q)
    rcases pk_ix v (n := nt) (by omega) with hv | hv | ⟨j, hj, rfl⟩
    · refine bad ?_ ?_
      · unfold f_X10_annul f_X9_addVoid
        simp only [zE_gC, zE_rC b, zw_g_t, u1]
        rw [if_neg hA, if_pos hv]; rfl
      · unfold f_X11_annul
        simp only [zE_gM, zw_g_t, u2]
        rw [if_neg hB, zE_in_lo hv]; rfl
    · refine bad ?_ ?_
      · unfold f_X10_annul f_X9_addVoid
        simp only [zE_gC, zE_rC b, zw_g_t, u1]
        rw [if_neg hA, if_pos hv]
        split <;> rfl
      · unfold f_X11_annul
        simp only [zE_gM, zw_g_t, u2]
        rw [if_neg hB, zE_in_hi hv (by omega)]; rfl
    · obtain ⟨z1, z2⟩ := u3 j hj
      by_cases hz : I 146 j = -1
      · have hz2 : I 196 j = -1 := z1.symm.trans hz
        have eC : f_X10_annul 1 (nI j) I (zE_R b) = some (nI nt, zw_u (zw_u I 146 nt (nI j)) 142 0 (nI (nt + 1))) := by
          unfold f_X10_annul f_X9_addVoid
          simp only [zE_gC, zE_rC b, zE_sC, zw_g_t, zw_let_e, u1, if_neg hA, if_neg (nI_pos (n := j) (by omega)), if_neg (nI_ge hj (by omega)), zE_in (k := j) (n := 60) (by omega) (by decide), zE_in (k := nt) (n := 60) (by omega) (by decide), zE_cl (k := j) (by omega), zE_cl (k := nt) (by omega), hz, zw_u_off _ _ _ (show (142 : Nat) ≠ 146 by decide), zE_u1, nI_1, nI_pred]
          rfl
        obtain ⟨I1, e1⟩ : ∃ I1, I1 = zw_u (zw_u I 146 nt (nI j)) 142 0 (nI (nt + 1)) := ⟨_, rfl⟩
        rw [← e1] at eC
        have o1 : ∀ x, x ≠ 142 → x ≠ 146 → I1 x = I x := by
          intro x h1 h2
          rw [e1, zw_u_off _ _ _ h1, zw_u_off _ _ _ h2]
        have eM : f_X11_annul 148 (nI j) I1 (zE_R b) = some (nI nt, zw_u (zw_u I1 196 nt (nI j)) 148 75 (nI (nt + 1))) := by
          have q1 : I1 148 75 = nI nt := by rw [o1 148 (by omega) (by omega)]; exact u2
          have q2 : I1 196 j = -1 := by rw [o1 196 (by omega) (by omega)]; exact hz2
          unfold f_X11_annul
          simp only [zE_gM, zE_rM b, zE_sM, zw_g_t, zw_let_e, q1, if_neg hB, zE_in_ok hj (by omega), Option.bind_some, if_neg zE_10, zE_in (k := j) (n := 60) (by omega) (by decide), zE_in (k := nt) (n := 60) (by omega) (by decide), zE_cl (k := j) (by omega), zE_cl (k := nt) (by omega), q2, zw_u_off _ _ _ (show (148 : Nat) ≠ 196 by decide), zE_u1, nI_1, nI_pred]
          rfl
        refine ⟨_, _, _, nt + 1, eC, eM, ⟨by omega, ?_, zE_u1 _ _ _ _, fun y hy => ?_⟩, fun x q1 q2 q3 => ?_, fun y hy => ?_⟩
        · rw [zE_u2 _ _ (by omega), zE_u2 _ _ (by omega), e1, zE_u1]
        · have r1 : ∀ x, x ≠ 148 → x ≠ 196 → zw_u (zw_u I1 196 nt (nI j)) 148 75 (nI (nt + 1)) x = I1 x := fun x q1 q2 => by rw [zw_u_off _ _ _ q1, zw_u_off _ _ _ q2]
          rw [r1 146 (by decide) (by decide), r1 143 (by decide) (by decide), r1 144 (by decide) (by decide), r1 145 (by decide) (by decide), r1 197 (by decide) (by decide), r1 198 (by decide) (by decide), r1 199 (by decide) (by decide), o1 143 (by omega) (by omega), o1 144 (by omega) (by omega), o1 145 (by omega) (by omega), o1 197 (by omega) (by omega), o1 198 (by omega) (by omega), o1 199 (by omega) (by omega)]
          by_cases hyn : y = nt
          · subst hyn
            have a1 : I1 146 y = nI j := by rw [e1, zE_u2 _ _ (by omega), zE_u1]
            have a2 : zw_u (zw_u I1 196 y (nI j)) 148 75 (nI (y + 1)) 196 y = nI j := by rw [zE_u2 _ _ (by omega), zE_u1]
            rw [a1, a2]
            exact ⟨rfl, Or.inl ⟨j, by omega, rfl⟩⟩
          · have a1 : I1 146 y = I 146 y := by rw [e1, zE_u2 _ _ (by omega), zE_u2 _ _ (by omega)]
            have a2 : zw_u (zw_u I1 196 nt (nI j)) 148 75 (nI (nt + 1)) 196 y = I 196 y := by rw [zE_u2 _ _ (by omega), zE_u2 _ _ (by omega), o1 196 (by omega) (by omega)]
            rw [a1, a2]
            obtain ⟨w1, w2⟩ := u3 y (by omega)
            refine ⟨w1, ?_⟩
            rcases w2 with ⟨q, q1, q2⟩ | w2
            · exact Or.inl ⟨q, by omega, q2⟩
            · exact Or.inr w2
        · rw [zw_u_off _ _ _ (by omega), zw_u_off _ _ _ (by omega), o1 x (by omega) (by omega)]
        · rw [zE_u2 _ _ (by omega), zE_u2 _ _ (by omega), o1 148 (by omega) (by omega)]
      · refine bad ?_ ?_
        · unfold f_X10_annul f_X9_addVoid
          simp only [zE_gC, zE_rC b, zE_sC, zw_g_t, u1, if_neg hA, if_neg (nI_pos (n := j) (by omega)), if_neg (nI_ge hj (by omega)), zE_in (k := j) (n := 60) (by omega) (by decide), zE_cl (k := j) (by omega), if_neg hz]
          rfl
        · unfold f_X11_annul
          simp only [zE_gM, zE_rM b, zE_sM, zw_g_t, u2, if_neg hB, zE_in_ok hj (by omega), Option.bind_some, if_neg zE_10, zE_in (k := j) (n := 60) (by omega) (by decide), zE_cl (k := j) (by omega), if_neg (show ¬ I 196 j = -1 from fun q => hz (z1.trans q))]
