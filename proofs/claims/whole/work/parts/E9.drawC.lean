/-! ===== a drawing, as the class reads it ===== -/
theorem zx_noteF {b : Bool} {I : zI} {T : Nat → Nat} {n f e : Nat} {fv pv : Int32} (h : zx_FF b T n I f e) : ∃ I2, f_X3_noteLater 7 fv pv I = some I2 ∧ zx_FF b T n I2 f e := by
  have hb := zE_hb b
  have g7 : zw_gc 7 3 = true := by simp only [zE_gC]
  unfold f_X3_noteLater
  rw [g7, zw_g_t]
  by_cases c : ¬ I 7 4 = 0
  · rw [if_pos c]; exact ⟨I, rfl, h⟩
  · rw [if_neg c, zw_let_e, zw_let_e]
    refine ⟨_, rfl, h.fr ?_ ?_ ?_ ?_⟩
    · rw [zE_u2 _ _ (by omega), zE_u2 _ _ (by omega)]
    · rw [zE_u2 _ _ (by omega), zE_u2 _ _ (by omega)]
    · rw [zE_u2 _ _ (by omega), zE_u2 _ _ (by omega)]
    · rw [zw_u_off _ _ _ (by omega), zw_u_off _ _ _ (by omega)]
/-- what lies in the drawing k that is in the making touches nothing -/
theorem zx_C_dr {b : Bool} {T : Nat → Nat} {n : Nat} {I I2 : zI} {J : zJ} {t k : Nat} {H : zq_H} {Q : zr_Q} {ts : List Nat} {q : Nat × Nat} (hB : zx_B (H, Q, ts, q)) (hk : k < 10) (hD : (H.D k).t = 0) (h : zx_C b T n I J t (H, Q, ts, q)) (f : ∀ a, a ≠ zE_h b + (21 + 2 * k) → a ≠ zE_h b + (21 + 2 * k) + 1 → I2 a = I a) : zx_C b T n I2 J t (H, Q, ts, q) := by
  have hb := zE_hb b
  obtain ⟨k1, k2, k3, k4, k5⟩ := hB
  have k1 : H.ns ≤ 4 := k1
  have k2 : H.nc ≤ 6 := k2
  have k3 : H.nr ≤ 4 := k3
  have k4 : Q.1 ≤ 8 := k4
  have k5 : Q.2.1 ≤ 8 := k5
  obtain ⟨⟨b0, b3, b4, b5⟩, a2, a3, a4, a5, a6, a7, a8, a9, cl, a10, a11, a12⟩ := h
  have fh : I2 (zE_h b) = I (zE_h b) := f _ (by omega) (by omega)
  have f7 : I2 7 = I 7 := f _ (by omega) (by omega)
  refine ⟨⟨by rw [f7]; exact b0, by rw [f7]; exact b3, by rw [f7]; exact b4, by rw [f7]; exact b5⟩, zp_X_tr a2 (f 4 (by omega) (by omega)) (f 5 (by omega) (by omega)) rfl, zt_TC_tr a3 (f 2 (by omega) (by omega)) (f 3 (by omega) (by omega)), zx_NC_tr a4 (by rw [fh]), by rw [fh]; exact a5, by rw [fh]; exact a6, by rw [fh]; exact a7, by rw [fh]; exact a8, by rw [fh]; exact a9, cl, a10, by rw [fh]; exact a11, fun h0 => ?_⟩
  obtain ⟨⟨e1, e2, e3, e4, e5⟩, d2⟩ := a12 h0
  refine ⟨⟨by rw [fh]; exact e1, by rw [fh]; exact e2, by rw [fh]; exact e3, fun j hj => ?_, fun j hj hz => ?_⟩, fun j hj => ?_⟩
  · have hj : j < H.ns := hj
    rw [f (zE_h b + (10 + 3 * j)) (by omega) (by omega), f (zE_h b + (11 + 3 * j)) (by omega) (by omega), f (zE_h b + (9 + 3 * j)) (by omega) (by omega)]
    exact e4 j hj
  · have hj : H.has j := hj
    have hz : (H.D j).t ≠ 0 := hz
    have h10 := zx_has10 k2 k3 hj
    have jk : j ≠ k := fun e => hz (by rw [e]; exact hD)
    have y1 : I2 (zE_h b + (21 + 2 * j)) = I (zE_h b + (21 + 2 * j)) := f _ (by omega) (by omega)
    refine ⟨zq_DC_tr (e5 j hj hz).1 y1 (f _ (by omega) (by omega)), ?_⟩
    have h6 := (e5 j hj hz).2
    unfold zq_DX at h6 ⊢
    rw [y1]
    exact h6
  · have hj : zr_has Q j := hj
    have j16 := zx_has16 k4 k5 hj
    refine zx_RC_tr (d2 j hj) (f _ (by omega) (by omega)) (fun i _ => ?_) (Nat.le_refl _)
    rw [f (zE_h b + 7) (by omega) (by omega), f (zE_h b + 8) (by omega) (by omega)]
    exact ⟨rfl, rfl⟩
/-- a drawing more, without rows -/
theorem zx_newD {b : Bool} {T : Nat → Nat} {n : Nat} {I I2 : zI} {J : zJ} {t k : Nat} {H H2 : zq_H} {Q : zr_Q} {ts : List Nat} {q : Nat × Nat} (hB : zx_B (H, Q, ts, q)) (hk : k < 10) (h : zx_C b T n I J t (H, Q, ts, q)) (f : ∀ a, a ≠ zE_h b → a ≠ zE_h b + (21 + 2 * k) → I2 a = I a) (fh : ∀ y, y ≠ 3 → y ≠ 5 → I2 (zE_h b) y = I (zE_h b) y) (c3 : I2 (zE_h b) 3 = nI H2.nc) (c5 : I2 (zE_h b) 5 = nI H2.nr) (e1 : H2.ns = H.ns) (e2 : H2.fl = H.fl) (e3 : H2.sl = H.sl) (e4 : H2.ea = H.ea) (hD : ∀ j, H2.has j → (H2.D j).t ≠ 0 → j ≠ k ∧ H.has j ∧ H2.D j = H.D j) : zx_C b T n I2 J t (H2, Q, ts, q) := by
  have hb := zE_hb b
  obtain ⟨k1, k2, k3, k4, k5⟩ := hB
  have k1 : H.ns ≤ 4 := k1
  have k2 : H.nc ≤ 6 := k2
  have k3 : H.nr ≤ 4 := k3
  have k4 : Q.1 ≤ 8 := k4
  have k5 : Q.2.1 ≤ 8 := k5
  obtain ⟨⟨b0, b3, b4, b5⟩, a2, a3, a4, a5, a6, a7, a8, a9, cl, a10, a11, a12⟩ := h
  have f7 : I2 7 = I 7 := f _ (by omega) (by omega)
  have a5 : I (zE_h b) 1 = nI H.ns := a5
  have c1 : I2 (zE_h b) 1 = nI H2.ns := by rw [fh 1 (by decide) (by decide), e1]; exact a5
  refine ⟨⟨by rw [f7]; exact b0, by rw [f7]; exact b3, by rw [f7]; exact b4, by rw [f7]; exact b5⟩, zp_X_tr a2 (f 4 (by omega) (by omega)) (f 5 (by omega) (by omega)) rfl, zt_TC_tr a3 (f 2 (by omega) (by omega)) (f 3 (by omega) (by omega)), zx_NC_tr a4 (fh 11 (by decide) (by decide)), c1, c3, c5, (fh 7 (by decide) (by decide)).trans a8, (fh 9 (by decide) (by decide)).trans a9, cl, a10, (fh 14 (by decide) (by decide)).trans a11, fun h0 => ?_⟩
  obtain ⟨⟨x1, x2, x3, x4, x5⟩, d2⟩ := a12 h0
  refine ⟨⟨c1, c3, c5, fun j hj => ?_, fun j hj hz => ?_⟩, fun j hj => ?_⟩
  · have hj : j < H2.ns := hj
    rw [e1] at hj
    show (∀ c, c < 4 → I2 (zE_h b + (10 + 3 * j)) c = nI (H2.fl j c) ∧ I2 (zE_h b + (11 + 3 * j)) c = nI (H2.sl j c)) ∧ I2 (zE_h b + (9 + 3 * j)) 2 = nI (H2.ea j)
    rw [e2, e3, e4, f (zE_h b + (10 + 3 * j)) (by omega) (by omega), f (zE_h b + (11 + 3 * j)) (by omega) (by omega), f (zE_h b + (9 + 3 * j)) (by omega) (by omega)]
    exact x4 j hj
  · obtain ⟨z1, z2, z3⟩ := hD j hj hz
    have h10 := zx_has10 k2 k3 z2
    show zq_DC I2 (zE_h b + (21 + 2 * j)) (H2.D j) ∧ zq_DX I2 (zE_h b + (21 + 2 * j)) (H2.D j)
    have hz : (H2.D j).t ≠ 0 := hz
    rw [z3] at hz ⊢
    have y1 : I2 (zE_h b + (21 + 2 * j)) = I (zE_h b + (21 + 2 * j)) := f _ (by omega) (by omega)
    refine ⟨zq_DC_tr (x5 j z2 hz).1 y1 (f _ (by omega) (by omega)), ?_⟩
    have h6 := (x5 j z2 hz).2
    unfold zq_DX at h6 ⊢
    rw [y1]
    exact h6
  · have hj : zr_has Q j := hj
    have j16 := zx_has16 k4 k5 hj
    refine zx_RC_tr (d2 j hj) (f _ (by omega) (by omega)) (fun i _ => ?_) (Nat.le_refl _)
    rw [f (zE_h b + 7) (by omega) (by omega), f (zE_h b + 8) (by omega) (by omega)]
    exact ⟨rfl, rfl⟩
/-- a drawing is done -/
theorem zx_setD {b : Bool} {T : Nat → Nat} {n : Nat} {I : zI} {J : zJ} {t k : Nat} {H H2 : zq_H} {Q : zr_Q} {ts : List Nat} {q : Nat × Nat} (h : zx_C b T n I J t (H, Q, ts, q)) (e1 : H2.ns = H.ns) (e5 : H2.nc = H.nc) (e6 : H2.nr = H.nr) (e2 : H2.fl = H.fl) (e3 : H2.sl = H.sl) (e4 : H2.ea = H.ea) (hD : ∀ j, j ≠ k → H2.D j = H.D j) (hX : q.1 = 0 → zq_DC I (zE_h b + (21 + 2 * k)) (H2.D k) ∧ zq_DX I (zE_h b + (21 + 2 * k)) (H2.D k)) : zx_C b T n I J t (H2, Q, ts, q) := by
  obtain ⟨a1, a2, a3, a4, a5, a6, a7, a8, a9, cl, a10, a11, a12⟩ := h
  have a5 : I (zE_h b) 1 = nI H.ns := a5
  have a6 : I (zE_h b) 3 = nI H.nc := a6
  have a7 : I (zE_h b) 5 = nI H.nr := a7
  refine ⟨a1, a2, a3, a4, by show I (zE_h b) 1 = nI H2.ns; rw [e1]; exact a5, by show I (zE_h b) 3 = nI H2.nc; rw [e5]; exact a6, by show I (zE_h b) 5 = nI H2.nr; rw [e6]; exact a7, a8, a9, cl, a10, a11, fun h0 => ?_⟩
  obtain ⟨⟨x1, x2, x3, x4, x5⟩, d2⟩ := a12 h0
  refine ⟨⟨by show I (zE_h b) 1 = nI H2.ns; rw [e1]; exact a5, by show I (zE_h b) 3 = nI H2.nc; rw [e5]; exact a6, by show I (zE_h b) 5 = nI H2.nr; rw [e6]; exact a7, fun j hj => ?_, fun j hj hz => ?_⟩, d2⟩
  · have hj : j < H2.ns := hj
    rw [e1] at hj
    show (∀ c, c < 4 → I (zE_h b + (10 + 3 * j)) c = nI (H2.fl j c) ∧ I (zE_h b + (11 + 3 * j)) c = nI (H2.sl j c)) ∧ I (zE_h b + (9 + 3 * j)) 2 = nI (H2.ea j)
    rw [e2, e3, e4]
    exact x4 j hj
  · have hj : H2.has j := hj
    have hz : (H2.D j).t ≠ 0 := hz
    show zq_DC I (zE_h b + (21 + 2 * j)) (H2.D j) ∧ zq_DX I (zE_h b + (21 + 2 * j)) (H2.D j)
    by_cases c : j = k
    · rw [c]; exact hX h0
    · rw [hD j c] at hz ⊢
      refine x5 j ?_ hz
      unfold zq_H.has at hj ⊢
      rw [e5, e6] at hj
      exact hj
/-- a row is taken -/
theorem zx_rowC {sw b : Bool} {I : zI} {J : zJ} {T : Nat → Nat} {n t k : Nat} {H : zq_H} {Q : zr_Q} {ts : List Nat} {q : Nat × Nat} {d : zq_D} (hB : zx_B (H, Q, ts, q)) (hk : k < 10) (hD : (H.D k).t = 0) (hq : q.1 ≤ 9) (h : zx_C b T n I J t (H, Q, ts, q)) (hd : zq_DC I (zE_h b + (21 + 2 * k)) d) (hd12 : d.t ≤ 12) (hw : d.t = 0 ∨ d.w ≤ 12) (ht : t ≤ 500) (hg : zt_go T n t) : (zt_K T n t = 4 ∧ d.t < 12 ∧ t < 500 ∧ ∃ I2, f_X3_takeRow 7 2 (zE_h b + (21 + 2 * k)) I (zE_R sw) J = some I2 ∧ zx_C b T n I2 J (t + 1) (H, Q, ts, zx_qr T n t d q) ∧ zq_DC I2 (zE_h b + (21 + 2 * k)) (zx_row T n t d)) ∨ (¬ (zt_K T n t = 4 ∧ d.t < 12 ∧ t < 500) ∧ ∃ I2, f_X3_takeRow 7 2 (zE_h b + (21 + 2 * k)) I (zE_R sw) J = some I2 ∧ zx_FF b T n I2 (if zt_K T n t = 4 then 2 else 1) t ∧ zq_DC I2 (zE_h b + (21 + 2 * k)) d) := by
  have hb := zE_hb b
  have g7 : zw_gc 7 3 = true := by simp only [zE_gC]
  have hr := zq_drk sw b k hk
  obtain ⟨⟨b0, b3, b4, b5⟩, a2, a3, -⟩ := id h
  obtain ⟨-, x2, -⟩ := a2.2.2 t ht hg
  obtain ⟨o, eo⟩ : ∃ o, o = zE_h b + (21 + 2 * k) := ⟨_, rfl⟩
  rw [← eo] at hd hr ⊢
  have hdd : f_X3_takeRow 7 2 o I (zE_R sw) J = (f_X3_take 7 2 4 (zr_b (decide (d.t < 12))) I (zE_R sw)).bind fun q12 => (if ¬ q12.1 = 0 then (if (q12.2 o 2) ≤ 0 then j_X3_takeRow_68 2 o (nI (zt_a T n t)) (Int64.toInt32 (J 6 t)) q12.2 (zE_R sw) J else if (q12.2 o 1) = Int64.toInt32 (J 6 t) then j_X3_takeRow_68 2 o (nI (zt_a T n t)) (Int64.toInt32 (J 6 t)) q12.2 (zE_R sw) J else ((f_X3_noteLater 7 5 (nI (zt_a T n t)) q12.2).bind fun q20 => (j_X3_takeRow_68 2 o (nI (zt_a T n t)) (Int64.toInt32 (J 6 t)) q20 (zE_R sw) J))) else some q12.2) := by
    unfold f_X3_takeRow j_X3_takeRow_39
    simp only [zE_gC, zE_rC sw, zE_sC, zw_g_t, zw_let_e, b3, zE_in (show t < 501 by omega) (by decide), zE_cl (show t < 2 ^ 31 by omega), x2, hr.1, hd.2.1]
    by_cases c : d.t < 12
    · rw [if_neg (show ¬ (12 : Int32) ≤ nI d.t from nI_ge (b := 12) c (by decide)), decide_eq_true c]; rfl
    · rw [if_pos (show (12 : Int32) ≤ nI d.t from nI_le (a := 12) (by omega) (by omega)), decide_eq_false c]; rfl
  rw [hdd]
  rcases zx_takeC (sw := sw) (k := 4) (kv := 4) (rv := zr_b (decide (d.t < 12))) (rm := decide (d.t < 12)) hB h ht hg (by decide) rfl rfl with ⟨t1, t2, t3, I1, t4, t5⟩ | ⟨t2, I1, t4, t5, t6⟩
  · have c12 : d.t < 12 := of_decide_eq_true t2
    refine Or.inl ⟨t1, c12, t3, ?_⟩
    obtain ⟨-, -, v1, v2, -⟩ := zx_K4 t1
    have tk := zp_take (sw := sw) (k := 4) (kv := 4) (rv := zr_b (decide (d.t < 12))) (rm := decide (d.t < 12)) a2 ht hg b0 b3 (by decide) rfl rfl
    rw [if_pos ⟨t1, t2, t3⟩, t4] at tk
    have eI1 : I1 = zw_u I 7 3 (nI (t + 1)) := by cases tk; rfl
    have f1 : ∀ a, a ≠ 7 → I1 a = I a := fun a ha => by rw [eI1, zw_u_off _ _ _ ha]
    have d1 : zq_DC I1 o d := zq_DC_tr hd (f1 o (by omega)) (f1 (o + 1) (by omega))
    rw [t4, Option.bind_some, zx_cvC a2 ht hg (Or.inr t1)]
    dsimp only
    rw [if_pos zE_10]
    -- the row comes in
    have add : ∀ (K : zI) (q2 : Nat × Nat), zx_C b T n K J (t + 1) (H, Q, ts, q2) → zq_DC K o d → ∃ I2, j_X3_takeRow_68 2 o (nI (zt_a T n t)) (nI (zp_V T n t)) K (zE_R sw) J = some I2 ∧ zx_C b T n I2 J (t + 1) (H, Q, ts, q2) ∧ zq_DC I2 o (zx_row T n t d) := by
      intro K q2 hK hdK
      obtain ⟨I2, r1, r2, r3⟩ := zx_addRowC (sw := sw) hr (by omega) hK.2.2.1 t1 hdK c12 hw
      refine ⟨I2, ?_, zx_C_dr (k := k) hB hk hD hK (fun a y1 y2 => by rw [← eo] at y1 y2; exact r2 a y1 y2), r3⟩
      unfold j_X3_takeRow_68
      rw [hr.1, zw_g_t, r1, Option.bind_some]
    unfold zx_qr
    by_cases c0 : d.t = 0
    · rw [if_pos (show I1 o 2 ≤ 0 by rw [d1.2.1, c0]; decide), if_pos (Or.inl c0)]
      exact add I1 q t5 d1
    · rw [if_neg (show ¬ I1 o 2 ≤ 0 by rw [d1.2.1]; exact nI_nle (by omega) (by omega))]
      have w12 : d.w ≤ 12 := by
        rcases hw with r | r
        · exact absurd r c0
        · exact r
      by_cases c1 : zp_V T n t = d.w
      · rw [if_pos (show I1 o 1 = nI (zp_V T n t) by rw [d1.1, c1]), if_pos (Or.inr c1)]
        exact add I1 q t5 d1
      · rw [if_neg (show ¬ I1 o 1 = nI (zp_V T n t) by rw [d1.1]; exact zr_ne (fun r => c1 r.symm) (by omega) (by omega)), if_neg (show ¬ (d.t = 0 ∨ zp_V T n t = d.w) from fun r => by rcases r with r | r; exact c0 r; exact c1 r)]
        obtain ⟨I2, n1, n2, n3⟩ := zx_noteC (f := 5) (p := zt_a T n t) (fv := 5) (pv := nI (zt_a T n t)) hB hq t5 (by decide) rfl rfl
        rw [n1, Option.bind_some]
        exact add I2 _ n2 (zq_DC_tr d1 (n3 o (by omega)) (n3 (o + 1) (by omega)))
  · refine Or.inr ⟨fun r => t2 ⟨r.1, decide_eq_true r.2.1, r.2.2⟩, I1, ?_, t5, zq_DC_tr hd (t6 o (by omega)) (t6 (o + 1) (by omega))⟩
    rw [t4, Option.bind_some]
    exact if_neg (fun r => r rfl)
/-- what is left behind a fault -/
def zx_FD (b : Bool) (T : Nat → Nat) (n : Nat) (I : zI) (o f e : Nat) : Prop := zx_FF b T n I f e ∧ ∃ d, zq_DC I o d ∧ d.w ≤ 12 ∧ d.t ≤ 12 ∧ ∀ x y, d.c x y ≤ 6
theorem zx_13e {R : zR} {J : zJ} {o N : Nat} {l m : Int32} {I : zI} : zw_it (s_X3_readDrawing_13 7 2 o R J) (N + 1) (l, 0, m, I) = some (l, I) := by
  refine zE_it0 N ?_
  unfold s_X3_readDrawing_13
  rw [if_pos rfl]
/-- one round -/
theorem zx_13 {sw b : Bool} {I I1 : zI} {J : zJ} {T : Nat → Nat} {n t o m : Nat} {σ : zx_S} {l v : Int32} (h : zx_C b T n I J t σ) (ht : t ≤ 500) (hg : zt_go T n t) (hm : m ≤ 12) (hrow : f_X3_takeRow 7 2 o I (zE_R sw) J = some I1) (hkd : f_X3_kind 7 2 I1 (zE_R sw) = some v) : s_X3_readDrawing_13 7 2 o (zE_R sw) J (l, 1, nI m, I) = some (.inl (nI (zt_a T n t), if ¬ v = 4 then 0 else 1, nI (m + 1), I1)) := by
  obtain ⟨-, x2, -⟩ := h.2.1.2.2 t ht hg
  unfold s_X3_readDrawing_13 j_X3_readDrawing_55_13
  simp only [zE_gC, zE_rC sw, zE_sC, zw_g_t, zw_let_e, h.1.2.1, zE_in (show t < 501 by omega) (by decide), zE_cl (show t < 2 ^ 31 by omega), x2, hrow, hkd, Option.bind_some, nI_1]
  rw [if_neg zE_10, if_neg (show ¬ (12 : Int32) < nI m from nI_nlt (a := 12) hm (by decide))]
  by_cases c : v = 4
  · rw [if_neg (fun r => r c), if_neg (fun r => r c)]
  · rw [if_pos c, if_pos c]
theorem zx_rowsC {sw b : Bool} {J : zJ} {T : Nat → Nat} {n k : Nat} {H : zq_H} {Q : zr_Q} {ts : List Nat} (hB : zx_B (H, Q, ts, (0, 0))) (hk : k < 10) (hD : (H.D k).t = 0) : ∀ (f t N : Nat) (I : zI) (d : zq_D) (q : Nat × Nat) (l : Int32), d.t + f = 13 → f + 2 ≤ N → zx_C b T n I J t (H, Q, ts, q) → zq_DC I (zE_h b + (21 + 2 * k)) d → (d.t = 0 ∨ zq_ok d) → (∀ x y, d.c x y ≤ 6) → d.w ≤ 12 → zx_qk T n t q → t ≤ 500 → zt_go T n t → zt_K T n t = 4 → ∃ I2 l2, zw_it (s_X3_readDrawing_13 7 2 (zE_h b + (21 + 2 * k)) (zE_R sw) J) N (l, 1, nI d.t, I) = some (l2, I2) ∧ match zx_rw T n f t d q with
    | .inl x => zx_C b T n I2 J x.1 (H, Q, ts, x.2.2) ∧ zq_DC I2 (zE_h b + (21 + 2 * k)) x.2.1 ∧ l2 = nI (zt_a T n (x.1 - 1))
    | .inr y => zx_FD b T n I2 (zE_h b + (21 + 2 * k)) y.1 y.2
  | 0, t, N, I, d, q, l, hf, hN, h, hd, hd2, h6, hw, hq, ht, hg, hK => by
    rcases hd2 with r | r
    · omega
    · have := r.t2; omega
  | f + 1, t, N, I, d, q, l, hf, hN, h, hd, hd2, h6, hw, hq, ht, hg, hK => by
    obtain ⟨N, rfl⟩ : ∃ N', N = N' + 2 := ⟨N - 2, by omega⟩
    unfold zx_rw
    rcases zx_rowC (sw := sw) (q := q) hB hk hD (zx_q9 hq) h hd (by omega) (Or.inr hw) ht hg with ⟨t1, t2, t3, I1, t4, t5, t6⟩ | ⟨t2, I1, t4, t5, t6⟩
    · rw [if_pos (show d.t < 12 ∧ t < 500 from ⟨t2, t3⟩)]
      have g1 : zt_go T n (t + 1) := zp_go hg (by omega) (by omega)
      have kd := zx_kindC (sw := sw) t5 (by omega) g1
      have kb := zp_K t5.2.1 (t + 1)
      have st := zx_13 (l := l) (m := d.t) h ht hg (by omega) t4 kd
      have ok := zx_row_ok (n := n) hK t2 hd2 h6
      by_cases c : zt_K T n (t + 1) = 4
      · rw [if_pos c]
        rw [if_neg (show ¬ ¬ nI (zt_K T n (t + 1)) = (4 : Int32) from fun r => r (by rw [c]; rfl))] at st
        obtain ⟨I2, l2, r1, r2⟩ := zx_rowsC (sw := sw) hB hk hD f (t + 1) (N + 1) I1 (zx_row T n t d) (zx_qr T n t d q) (nI (zt_a T n t)) (by show d.t + 1 + f = 13; omega) (by omega) t5 t6 (Or.inr ok) ok.c6 ok.w2 (zx_qr_k hq (by omega) (by omega)) (by omega) g1 c
        exact ⟨I2, l2, (zE_it1 (N + 1) st).trans r1, r2⟩
      · rw [if_neg c]
        rw [if_pos (show ¬ nI (zt_K T n (t + 1)) = (4 : Int32) from zr_ne (b := 4) c (by omega) (by decide))] at st
        exact ⟨I1, nI (zt_a T n t), (zE_it1 (N + 1) st).trans zx_13e, t5, t6, rfl⟩
    · rw [if_neg (show ¬ (d.t < 12 ∧ t < 500) from fun r => t2 ⟨hK, r.1, r.2⟩)]
      have st := zx_13 (sw := sw) (l := l) (m := d.t) h ht hg (by omega) t4 (zp_kindF t5.ne)
      rw [if_pos (show ¬ (1 : Int32) = 4 by decide)] at st
      rw [if_pos hK] at t5
      exact ⟨I1, nI (zt_a T n t), (zE_it1 (N + 1) st).trans zx_13e, t5, d, t6, hw, by omega, h6⟩
/-- the end: measured -/
theorem zx_63t {sw b : Bool} {I : zI} {J : zJ} {T : Nat → Nat} {n k f e : Nat} {l : Int32} (hk : k < 10) (h : zx_FD b T n I (zE_h b + (21 + 2 * k)) f e) : ∃ I2, j_X3_readDrawing_63 7 2 (zE_h b + (21 + 2 * k)) l I (zE_R sw) J = some (I2, J) ∧ zx_FF b T n I2 f e := by
  have hb := zE_hb b
  have g7 : zw_gc 7 3 = true := by simp only [zE_gC]
  have hr := zq_drk sw b k hk
  obtain ⟨h1, d, h2, h3, h4, h5⟩ := h
  obtain ⟨I2, r1, r2, r3, r4⟩ := zx_measure hr h3 h4 h5 h2
  have F : zx_FF b T n I2 f e := h1.fr (by rw [r2 7 (by omega)]) (by rw [r2 7 (by omega)]) (by rw [r2 7 (by omega)]) (by rw [r2 (zE_h b) (by omega)])
  unfold j_X3_readDrawing_63
  rw [g7, zw_g_t, zp_takeF h1.ne, Option.bind_some, hr.1, zw_g_t]
  dsimp only
  rw [r1, Option.bind_some]
  by_cases c : ¬ I2 (zE_h b + (21 + 2 * k)) 3 = 0
  · rw [if_pos c]; exact ⟨I2, rfl, F⟩
  · rw [if_neg c]
    obtain ⟨I3, n1, n2⟩ := zx_noteF (fv := 5) (pv := l) F
    rw [n1, Option.bind_some]
    exact ⟨I3, rfl, n2⟩
theorem zx_63C {sw b : Bool} {I : zI} {J : zJ} {T : Nat → Nat} {n k t p : Nat} {l : Int32} {H : zq_H} {Q : zr_Q} {ts : List Nat} {q : Nat × Nat} {d : zq_D} (hB : zx_B (H, Q, ts, q)) (hk : k < 10) (hD : (H.D k).t = 0) (hq : q.1 ≤ 9) (h : zx_C b T n I J t (H, Q, ts, q)) (hd : zq_DC I (zE_h b + (21 + 2 * k)) d) (ok : zq_ok d) (el : l = nI (zt_a T n p)) (ht : t ≤ 500) (hg : zt_go T n t) : ∃ I2, j_X3_readDrawing_63 7 2 (zE_h b + (21 + 2 * k)) l I (zE_R sw) J = some (I2, J) ∧ match (zx_need (zt_K T n) 5 t (.inl (t + 1, d, zx_q0 T n p d q)) : zx_OD) with
    | .inl x => zx_C b T n I2 J x.1 (H, Q, ts, x.2.2) ∧ zq_DC I2 (zE_h b + (21 + 2 * k)) x.2.1 ∧ (x.2.2.1 = 0 → zq_DX I2 (zE_h b + (21 + 2 * k)) x.2.1)
    | .inr y => zx_FF b T n I2 y.1 y.2 := by
  have hb := zE_hb b
  have g7 : zw_gc 7 3 = true := by simp only [zE_gC]
  have hr := zq_drk sw b k hk
  obtain ⟨o, eo⟩ : ∃ o, o = zE_h b + (21 + 2 * k) := ⟨_, rfl⟩
  rcases zx_takeC (sw := sw) (k := 5) (kv := 5) (rv := 1) (rm := true) hB h ht hg (by decide) rfl rfl with ⟨t1, -, t3, I1, t4, t5⟩ | ⟨t2, I1, t4, t5, t6⟩
  · unfold zx_need
    rw [if_pos (show zt_K T n t = 5 ∧ t < 500 from ⟨t1, t3⟩)]
    have tk := zp_take (sw := sw) (k := 5) (kv := 5) (rv := 1) (rm := true) h.2.1 ht hg h.1.1 h.1.2.1 (by decide) rfl rfl
    rw [if_pos ⟨t1, rfl, t3⟩, t4] at tk
    have eI1 : I1 = zw_u I 7 3 (nI (t + 1)) := by cases tk; rfl
    have f1 : ∀ a, a ≠ 7 → I1 a = I a := fun a ha => by rw [eI1, zw_u_off _ _ _ ha]
    have d1 : zq_DC I1 (zE_h b + (21 + 2 * k)) d := zq_DC_tr hd (f1 _ (by omega)) (f1 _ (by omega))
    obtain ⟨I2, r1, r2, r3, r4⟩ := zx_measure hr ok.w2 ok.t2 ok.c6 d1
    have C2 : zx_C b T n I2 J (t + 1) (H, Q, ts, q) := zx_C_dr (k := k) hB hk hD t5 (fun a y1 y2 => r2 a y1)
    have e3 : I2 (zE_h b + (21 + 2 * k)) 3 = nI (zq_hf d d.t) := r4.1
    have hfb := zx_hfb ok.w2 d.t
    have t12 := ok.t2
    unfold j_X3_readDrawing_63
    rw [g7, zw_g_t, t4, Option.bind_some, hr.1, zw_g_t]
    dsimp only
    rw [r1, Option.bind_some]
    unfold zx_q0
    by_cases c : zq_hf d d.t = 0
    · rw [if_neg (show ¬ ¬ I2 (zE_h b + (21 + 2 * k)) 3 = 0 from fun r => r (by rw [e3, c]; rfl)), if_pos c]
      obtain ⟨I3, n1, n2, n3⟩ := zx_noteC (f := 5) (p := zt_a T n p) (fv := 5) (pv := l) hB hq C2 (by decide) rfl el
      rw [n1, Option.bind_some]
      exact ⟨I3, rfl, n2, zq_DC_tr r3 (n3 _ (by omega)) (n3 _ (by omega)), fun h0 => absurd h0 (zx_n_0 (by decide))⟩
    · rw [if_pos (show ¬ I2 (zE_h b + (21 + 2 * k)) 3 = 0 by rw [e3]; exact zr_ne (b := 0) c (by omega) (by decide)), if_neg c]
      exact ⟨I2, rfl, C2, r3, fun _ => zx_msX ok.w2 r4 c⟩
  · unfold zx_need
    rw [if_neg (show ¬ (zt_K T n t = 5 ∧ t < 500) from fun r => t2 ⟨r.1, rfl, r.2⟩)]
    have FD : zx_FD b T n I1 (zE_h b + (21 + 2 * k)) (if zt_K T n t = 5 then 2 else 1) t := ⟨t5, d, zq_DC_tr hd (t6 _ (by omega)) (t6 _ (by omega)), ok.w2, ok.t2, ok.c6⟩
    obtain ⟨I2, r1, r2⟩ := zx_63t (sw := sw) (J := J) (l := l) hk FD
    refine ⟨I2, ?_, r2⟩
    have e1 : j_X3_readDrawing_63 7 2 (zE_h b + (21 + 2 * k)) l I (zE_R sw) J = j_X3_readDrawing_63 7 2 (zE_h b + (21 + 2 * k)) l I1 (zE_R sw) J := by
      unfold j_X3_readDrawing_63
      rw [t4, zp_takeF t5.ne, Option.bind_some]
    rw [e1, r1]
