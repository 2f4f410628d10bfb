/-! ===== a CUT, a ROUGH, as the class reads them ===== -/
theorem zx_drawC {sw b : Bool} {I : zI} {J : zJ} {T : Nat → Nat} {n t k : Nat} {H : zq_H} {Q : zr_Q} {ts : List Nat} {q : Nat × Nat} (hr : zE_R sw 7 2 = zE_h b) (hB : zx_B (H, Q, ts, q)) (hk : k < 10) (hD : (H.D k).t = 0) (hts : ∀ u, u ∈ ts → u ≤ 500 ∧ zt_go T n u ∧ zt_K T n u = 2) (hl : ts.length < 30) (hq : zx_qk T n t q) (h : zx_C b T n I J (t + 1) (H, Q, ts, q)) (hd : zq_DC I (zE_h b + (21 + 2 * k)) zx_d0) (ht : t < 500) (hg : zt_go T n (t + 1)) : ∃ I2 J2, f_X3_readDrawing 7 2 (zE_h b + (21 + 2 * k)) I (zE_R sw) J = some (I2, J2) ∧ match zx_draw T n t ts q with
    | .inl x => zx_C b T n I2 J2 x.1 (H, Q, (t + 1) :: ts, x.2.2) ∧ zq_DC I2 (zE_h b + (21 + 2 * k)) x.2.1 ∧ (x.2.2.1 = 0 → zq_DX I2 (zE_h b + (21 + 2 * k)) x.2.1)
    | .inr y => zx_FF b T n I2 y.1 y.2 := by
  have hb := zE_hb b
  have g7 : zw_gc 7 3 = true := by simp only [zE_gC]
  have hdd : ∀ I1 J1, f_X3_takeName 7 2 I (zE_R sw) J = some (I1, J1) → f_X3_readDrawing 7 2 (zE_h b + (21 + 2 * k)) I (zE_R sw) J = (zw_it (s_X3_readDrawing_13 7 2 (zE_h b + (21 + 2 * k)) (zE_R sw) J1) 1000000 (-1, 1, 0, I1)).bind fun q14 => (j_X3_readDrawing_63 7 2 (zE_h b + (21 + 2 * k)) q14.1 q14.2 (zE_R sw) J1) := by
    intro I1 J1 e
    unfold f_X3_readDrawing
    rw [g7, zw_g_t, e, Option.bind_some]
  -- behind a fault: one round, and measured
  have bad : ∀ (I1 : zI) (J1 : zJ) (f e : Nat), f_X3_takeName 7 2 I (zE_R sw) J = some (I1, J1) → zx_FF b T n I1 f e → zq_DC I1 (zE_h b + (21 + 2 * k)) zx_d0 → ∃ I2, f_X3_readDrawing 7 2 (zE_h b + (21 + 2 * k)) I (zE_R sw) J = some (I2, J1) ∧ zx_FF b T n I2 f e := by
    intro I1 J1 f e hn hF hd1
    obtain ⟨-, -, -, c, t2, -, u2, -, u4⟩ := id hF
    have row : f_X3_takeRow 7 2 (zE_h b + (21 + 2 * k)) I1 (zE_R sw) J1 = some I1 := by
      have e2 : I1 (zE_h b + (21 + 2 * k)) 2 = nI 0 := hd1.2.1
      unfold f_X3_takeRow j_X3_takeRow_39
      simp only [zE_gC, zE_rC sw, zE_sC, zw_g_t, zw_let_e, u4, zE_in (show t2 < 501 by omega) (by decide), zE_cl (show t2 < 2 ^ 31 by omega), (zq_drk sw b k hk).1, e2, zp_takeF hF.ne, Option.bind_some]
      rw [if_neg (show ¬ (12 : Int32) ≤ nI 0 by decide)]
      exact if_neg (fun r => r trivial)
    have st : s_X3_readDrawing_13 7 2 (zE_h b + (21 + 2 * k)) (zE_R sw) J1 (-1, 1, 0, I1) = some (.inl (I1 5 t2, 0, 1, I1)) := by
      unfold s_X3_readDrawing_13 j_X3_readDrawing_55_13
      simp only [zE_gC, zE_rC sw, zE_sC, zw_g_t, zw_let_e, u4, zE_in (show t2 < 501 by omega) (by decide), zE_cl (show t2 < 2 ^ 31 by omega), row, zp_kindF hF.ne, Option.bind_some]
      rfl
    have it : zw_it (s_X3_readDrawing_13 7 2 (zE_h b + (21 + 2 * k)) (zE_R sw) J1) 1000000 (-1, 1, 0, I1) = some (I1 5 t2, I1) := (zE_it1 999999 st).trans zx_13e
    rw [hdd I1 J1 hn, it, Option.bind_some]
    exact zx_63t hk ⟨hF, zx_d0, hd1, by show 0 ≤ 12; decide, by show 0 ≤ 12; decide, fun _ _ => Nat.zero_le _⟩
  unfold zx_draw zx_need
  rcases zx_nameC (sw := sw) hr hB hts hl (zx_qk_up hq (show t ≤ t + 1 by omega)) h (by omega) hg with ⟨m1, m2, I1, J1, m3, m4⟩ | ⟨m1, I1, m3, m4, m5⟩
  · rw [if_pos (show zt_K T n (t + 1) = 2 ∧ t + 1 < 500 from ⟨m1, m2⟩)]
    have g2 : zt_go T n (t + 2) := zp_go hg (by omega) (by omega)
    have m4 : zx_C b T n I1 J1 (t + 2) (H, Q, (t + 1) :: ts, zx_qn T n ts q (t + 1)) := m4
    have hB2 : zx_B (H, Q, (t + 1) :: ts, zx_qn T n ts q (t + 1)) := hB
    have hq2 : zx_qk T n (t + 2) (zx_qn T n ts q (t + 1)) := zx_qn_k hq (by omega) (by omega)
    -- a name leaves drawings alone
    have dn : zq_DC I1 (zE_h b + (21 + 2 * k)) zx_d0 := by
      obtain ⟨kk, n1, n2, n3⟩ := h.2.2.2.1
      have n1 : kk ≤ ts.length := n1
      rcases zc_takeName (sw := sw) hr h.2.1 (show t + 1 ≤ 500 by omega) hg h.1.1 h.1.2.1 n2 (by omega) with ⟨c1, c2, ⟨c3, c4⟩ | ⟨c3, c4⟩⟩ | ⟨c1, c4⟩
      · rw [m3] at c4
        cases c4
        exact zq_DC_tr hd (by rw [zw_u_off _ _ _ (by omega), zw_u_off _ _ _ (by omega)]) (by rw [zw_u_off _ _ _ (by omega), zw_u_off _ _ _ (by omega)])
      · rw [m3] at c4
        by_cases c5 : ¬ I 7 4 = 0
        · rw [if_pos c5] at c4
          cases c4
          exact zq_DC_tr hd (by rw [zw_u_off _ _ _ (by omega)]) (by rw [zw_u_off _ _ _ (by omega)])
        · rw [if_neg c5] at c4
          cases c4
          exact zq_DC_tr hd (by rw [zw_u_off _ _ _ (by omega), zw_u_off _ _ _ (by omega), zw_u_off _ _ _ (by omega)]) (by rw [zw_u_off _ _ _ (by omega), zw_u_off _ _ _ (by omega), zw_u_off _ _ _ (by omega)])
      · exact absurd ⟨m1, m2⟩ c1
    by_cases c4 : zt_K T n (t + 2) = 4
    · rw [if_pos c4]
      obtain ⟨I2, l2, r1, r2⟩ := zx_rowsC (sw := sw) (b := b) (J := J1) (T := T) (n := n) (H := H) (Q := Q) (ts := (t + 1) :: ts) hB hk hD 13 (t + 2) 1000000 I1 zx_d0 (zx_qn T n ts q (t + 1)) (-1) rfl (by decide) m4 dn (Or.inl rfl) (fun _ _ => Nat.zero_le _) (by show 0 ≤ 12; decide) hq2 (by omega) g2 c4
      have r1 : zw_it (s_X3_readDrawing_13 7 2 (zE_h b + (21 + 2 * k)) (zE_R sw) J1) 1000000 (-1, 1, 0, I1) = some (l2, I2) := r1
      rw [hdd I1 J1 m3, r1, Option.bind_some]
      have ro := zx_rw_ok (T := T) (n := n) 13 (t + 2) zx_d0 (zx_qn T n ts q (t + 1)) (by omega) g2 c4 hq2 (Or.inl rfl) (fun _ _ => Nat.zero_le _)
      cases hR : zx_rw T n 13 (t + 2) zx_d0 (zx_qn T n ts q (t + 1)) with
      | inr y =>
        rw [hR] at r2
        obtain ⟨I3, s1, s2⟩ := zx_63t (sw := sw) (J := J1) (l := l2) hk r2
        exact ⟨I3, J1, s1, s2⟩
      | inl x =>
        rw [hR] at r2 ro
        obtain ⟨v1, v2, v3⟩ := r2
        obtain ⟨o1, o2, o3, o4, o5, -⟩ := ro
        obtain ⟨I3, s1, s2⟩ := zx_63C (sw := sw) (p := x.1 - 1) (l := l2) (q := x.2.2) hB hk hD (zx_q9 o4) v1 v2 o5 v3 o2 o3
        exact ⟨I3, J1, s1, s2⟩
    · rw [if_neg c4]
      rcases zx_rowC (sw := sw) (J := J1) hB2 hk hD (zx_q9 hq2) m4 dn (by show 0 ≤ 12; decide) (Or.inl rfl) (by omega) g2 with ⟨t1, -⟩ | ⟨t2, I2, t4, t5, t6⟩
      · exact absurd t1 c4
      · rw [if_neg c4] at t5
        have st := zx_13 (sw := sw) (l := -1) (m := 0) m4 (by omega) g2 (by decide) t4 (zp_kindF t5.ne)
        rw [if_pos (show ¬ (1 : Int32) = 4 by decide)] at st
        have it : zw_it (s_X3_readDrawing_13 7 2 (zE_h b + (21 + 2 * k)) (zE_R sw) J1) 1000000 (-1, 1, 0, I1) = some (nI (zt_a T n (t + 2)), I2) := (zE_it1 999999 st).trans zx_13e
        rw [hdd I1 J1 m3, it, Option.bind_some]
        obtain ⟨I3, s1, s2⟩ := zx_63t (sw := sw) (J := J1) (l := nI (zt_a T n (t + 2))) hk ⟨t5, zx_d0, t6, by show 0 ≤ 12; decide, by show 0 ≤ 12; decide, fun _ _ => Nat.zero_le _⟩
        exact ⟨I3, J1, s1, s2⟩
  · rw [if_neg m1]
    obtain ⟨I2, s1, s2⟩ := bad I1 J _ _ m3 m4 (zq_DC_tr hd (m5 _ (by omega)) (m5 _ (by omega)))
    exact ⟨I2, J, s1, s2⟩
/-- a drawing more -/
theorem zc_addCut {sw b : Bool} {I : zI} {k : Nat} (h3 : I (zE_h b) 3 = nI k) (hk : k < 6) : f_X1_addCut (zE_h b) I (zE_R sw) = some (zE_h b + (21 + 2 * k), zw_u (zw_u (zw_u I (zE_h b) 3 (nI (k + 1))) (zE_h b + (21 + 2 * k)) 1 0) (zE_h b + (21 + 2 * k)) 2 0) := by
  have r2 := (zE_rH sw b).2.1
  have g2 := (zE_gH b).2.2.1
  have s2 := (zE_sH b).2.2.1
  have gd := (zE_sHdr b k (by omega)).2
  unfold f_X1_addCut f_X0_empty
  rw [(zE_gH b).1, zw_g_t, r2, g2, zw_g_t, s2, h3, zE_in hk (by decide), zw_g_t, zE_cl (show k < 2 ^ 31 by omega), zE_rHc sw b k hk, gd, zw_g_t, zw_let_e, zw_g_t, zw_let_e, zw_let_e, Option.bind_some, nI_1]
theorem zc_addRough {sw b : Bool} {I : zI} {k : Nat} (h5 : I (zE_h b) 5 = nI k) (hk : k < 4) : f_X1_addRough (zE_h b) I (zE_R sw) = some (zE_h b + (21 + 2 * (6 + k)), zw_u (zw_u (zw_u I (zE_h b) 5 (nI (k + 1))) (zE_h b + (21 + 2 * (6 + k))) 1 0) (zE_h b + (21 + 2 * (6 + k))) 2 0) := by
  have r4 := (zE_rH sw b).2.2.1
  have g3 := (zE_gH b).2.2.2.1
  have s3 := (zE_sH b).2.2.2.1
  have gd := (zE_sHdr b (6 + k) (by omega)).2
  have rr : zE_R sw (zE_h b + 3) k = zE_h b + (21 + 2 * (6 + k)) := (zE_rHr sw b k hk).trans (by omega)
  unfold f_X1_addRough f_X0_empty
  rw [(zE_gH b).1, zw_g_t, r4, g3, zw_g_t, s3, h5, zE_in hk (by decide), zw_g_t, zE_cl (show k < 2 ^ 31 by omega), rr, gd, zw_g_t, zw_let_e, zw_g_t, zw_let_e, zw_let_e, Option.bind_some, nI_1]
theorem zx_cutC {sw b : Bool} {I : zI} {J : zJ} {T : Nat → Nat} {n t : Nat} {σ : zx_S} (hr : zE_R sw 7 2 = zE_h b) (hP : zx_P T n t σ) (h : zx_C b T n I J t σ) (hk : zt_K T n t = 19) : ∃ I2 J2, f_X3_readCut 7 2 I (zE_R sw) J = some (I2, J2) ∧ zx_RC b T n I2 J2 (zx_cut T n t σ) := by
  have hb := zE_hb b
  have g7 : zw_gc 7 3 = true := by simp only [zE_gC]
  have gh := (zE_gH b).1
  obtain ⟨p1, p2, p3, p4, p5, p6, p7, p8, p9, p10, -⟩ := id hP
  have hB : zx_B σ := ⟨p3, p4, p5, p6, p7⟩
  have a6 := h.2.2.2.2.2.1
  have hd : f_X3_readCut 7 2 I (zE_R sw) J = (f_X3_take 7 2 19 (zr_b (decide (σ.1.nc < 6))) I (zE_R sw)).bind fun q5 => (if q5.1 = 0 then some (q5.2, J) else ((f_X1_addCut (zE_h b) q5.2 (zE_R sw)).bind fun q9 => ((f_X3_readDrawing 7 2 q9.1 q9.2 (zE_R sw) J).bind fun q10 => (some (q10.1, q10.2))))) := by
    unfold f_X3_readCut j_X3_readCut_21
    simp only [g7, zw_g_t, hr, gh, a6]
    by_cases c : σ.1.nc < 6
    · rw [if_neg (show ¬ (6 : Int32) ≤ nI σ.1.nc from nI_ge (b := 6) c (by decide)), decide_eq_true c]; rfl
    · rw [if_pos (show (6 : Int32) ≤ nI σ.1.nc from nI_le (a := 6) (by omega) (by omega)), decide_eq_false c]; rfl
  rw [hd]
  unfold zx_cut
  rcases zx_takeC (sw := sw) (k := 19) (kv := 19) (rv := zr_b (decide (σ.1.nc < 6))) (rm := decide (σ.1.nc < 6)) hB h p1 p2 (by decide) rfl rfl with ⟨-, t2, t3, I1, t4, t5⟩ | ⟨t2, I1, t4, t5, -⟩
  · have c6 : σ.1.nc < 6 := of_decide_eq_true t2
    rw [t4, Option.bind_some, if_pos (show σ.1.nc < 6 ∧ t < 500 from ⟨c6, t3⟩)]
    dsimp only
    rw [if_neg zE_10, zc_addCut t5.2.2.2.2.2.1 c6, Option.bind_some]
    have g1 : zt_go T n (t + 1) := zp_go p2 (by omega) (by omega)
    obtain ⟨K, eK⟩ : ∃ K, K = zw_u (zw_u (zw_u I1 (zE_h b) 3 (nI (σ.1.nc + 1))) (zE_h b + (21 + 2 * σ.1.nc)) 1 0) (zE_h b + (21 + 2 * σ.1.nc)) 2 0 := ⟨_, rfl⟩
    dsimp only
    rw [← eK]
    have Dn : ((zx_hc σ.1 zx_d0).D σ.1.nc).t = 0 := by
      show (zx_up σ.1.D σ.1.nc zx_d0 σ.1.nc).t = 0
      rw [zx_up1]; rfl
    have NC : zx_C b T n K J (t + 1) (zx_hc σ.1 zx_d0, σ.2.1, σ.2.2.1, σ.2.2.2) := by
      refine zx_newD (k := σ.1.nc) (H := σ.1) (Q := σ.2.1) (ts := σ.2.2.1) (q := σ.2.2.2) hB (by omega) t5 (fun a y1 y2 => by rw [eK, zw_u_off _ _ _ y2, zw_u_off _ _ _ y2, zw_u_off _ _ _ y1]) (fun y y1 y2 => by rw [eK, zw_u_off _ _ _ (by omega), zw_u_off _ _ _ (by omega), zE_u2 _ _ (by omega)]) ?_ ?_ rfl rfl rfl rfl (fun j hj hz => ?_)
      · show K (zE_h b) 3 = nI (σ.1.nc + 1)
        rw [eK, zw_u_off _ _ _ (by omega), zw_u_off _ _ _ (by omega), zE_u1]
      · show K (zE_h b) 5 = nI σ.1.nr
        rw [eK, zw_u_off _ _ _ (by omega), zw_u_off _ _ _ (by omega), zE_u2 _ _ (by omega)]
        exact t5.2.2.2.2.2.2.1
      · have hj : j < σ.1.nc + 1 ∨ (6 ≤ j ∧ j < 6 + σ.1.nr) := hj
        have hz : (zx_up σ.1.D σ.1.nc zx_d0 j).t ≠ 0 := hz
        have jk : j ≠ σ.1.nc := fun e => hz (by rw [e, zx_up1]; rfl)
        refine ⟨jk, by unfold zq_H.has; omega, ?_⟩
        show zx_up σ.1.D σ.1.nc zx_d0 j = σ.1.D j
        exact zx_up2 _ _ jk
    have DC0 : zq_DC K (zE_h b + (21 + 2 * σ.1.nc)) zx_d0 := by
      refine ⟨?_, ?_, fun x y hx hy => absurd hx (Nat.not_lt_zero _)⟩
      · rw [eK, zE_u2 _ _ (by omega), zE_u1]; rfl
      · rw [eK, zE_u1]; rfl
    have hB2 : zx_B (zx_hc σ.1 zx_d0, σ.2.1, σ.2.2.1, σ.2.2.2) := ⟨p3, c6, p5, p6, p7⟩
    obtain ⟨I2, J2, r1, r2⟩ := zx_drawC (sw := sw) hr hB2 (show σ.1.nc < 10 by omega) Dn p9 (by omega) p10 NC DC0 t3 g1
    rw [r1, Option.bind_some]
    refine ⟨I2, J2, rfl, ?_⟩
    cases hX : zx_draw T n t σ.2.2.1 σ.2.2.2 with
    | inr y => rw [hX] at r2; exact r2
    | inl x =>
      rw [hX] at r2
      obtain ⟨v1, v2, v3⟩ := r2
      refine zx_setD (k := σ.1.nc) v1 rfl rfl rfl rfl rfl rfl (fun j hj => ?_) (fun h0 => ?_)
      · show zx_up σ.1.D σ.1.nc x.2.1 j = zx_up σ.1.D σ.1.nc zx_d0 j
        rw [zx_up2 _ _ hj, zx_up2 _ _ hj]
      · show zq_DC I2 (zE_h b + (21 + 2 * σ.1.nc)) (zx_up σ.1.D σ.1.nc x.2.1 σ.1.nc) ∧ zq_DX I2 (zE_h b + (21 + 2 * σ.1.nc)) (zx_up σ.1.D σ.1.nc x.2.1 σ.1.nc)
        rw [zx_up1]
        exact ⟨v2, v3 h0⟩
  · rw [t4, Option.bind_some]
    dsimp only
    rw [if_pos rfl]
    have c : ¬ (σ.1.nc < 6 ∧ t < 500) := fun r => t2 ⟨hk, decide_eq_true r.1, r.2⟩
    rw [if_pos hk] at t5
    rw [if_neg c]
    exact ⟨I1, J, rfl, t5⟩
theorem zx_roughC {sw b : Bool} {I : zI} {J : zJ} {T : Nat → Nat} {n t : Nat} {σ : zx_S} (hr : zE_R sw 7 2 = zE_h b) (hP : zx_P T n t σ) (h : zx_C b T n I J t σ) (hk : zt_K T n t = 20) : ∃ I2 J2, f_X3_readRough 7 2 I (zE_R sw) J = some (I2, J2) ∧ zx_RC b T n I2 J2 (zx_rough T n t σ) := by
  have hb := zE_hb b
  have g7 : zw_gc 7 3 = true := by simp only [zE_gC]
  have gh := (zE_gH b).1
  obtain ⟨p1, p2, p3, p4, p5, p6, p7, p8, p9, p10, -⟩ := id hP
  have hB : zx_B σ := ⟨p3, p4, p5, p6, p7⟩
  have a7 := h.2.2.2.2.2.2.1
  have hd : f_X3_readRough 7 2 I (zE_R sw) J = (f_X3_take 7 2 20 (zr_b (decide (σ.1.nr < 4))) I (zE_R sw)).bind fun q5 => (if q5.1 = 0 then some (q5.2, J) else ((f_X1_addRough (zE_h b) q5.2 (zE_R sw)).bind fun q9 => ((f_X3_readDrawing 7 2 q9.1 q9.2 (zE_R sw) J).bind fun q10 => (some (q10.1, q10.2))))) := by
    unfold f_X3_readRough j_X3_readRough_20
    simp only [g7, zw_g_t, hr, gh, a7]
    by_cases c : σ.1.nr < 4
    · rw [if_neg (show ¬ (4 : Int32) ≤ nI σ.1.nr from nI_ge (b := 4) c (by decide)), decide_eq_true c]; rfl
    · rw [if_pos (show (4 : Int32) ≤ nI σ.1.nr from nI_le (a := 4) (by omega) (by omega)), decide_eq_false c]; rfl
  rw [hd]
  unfold zx_rough
  rcases zx_takeC (sw := sw) (k := 20) (kv := 20) (rv := zr_b (decide (σ.1.nr < 4))) (rm := decide (σ.1.nr < 4)) hB h p1 p2 (by decide) rfl rfl with ⟨-, t2, t3, I1, t4, t5⟩ | ⟨t2, I1, t4, t5, -⟩
  · have c6 : σ.1.nr < 4 := of_decide_eq_true t2
    rw [t4, Option.bind_some, if_pos (show σ.1.nr < 4 ∧ t < 500 from ⟨c6, t3⟩)]
    dsimp only
    rw [if_neg zE_10, zc_addRough t5.2.2.2.2.2.2.1 c6, Option.bind_some]
    have g1 : zt_go T n (t + 1) := zp_go p2 (by omega) (by omega)
    obtain ⟨K, eK⟩ : ∃ K, K = zw_u (zw_u (zw_u I1 (zE_h b) 5 (nI (σ.1.nr + 1))) (zE_h b + (21 + 2 * (6 + σ.1.nr))) 1 0) (zE_h b + (21 + 2 * (6 + σ.1.nr))) 2 0 := ⟨_, rfl⟩
    dsimp only
    rw [← eK]
    have Dn : ((zx_hr σ.1 zx_d0).D (6 + σ.1.nr)).t = 0 := by
      show (zx_up σ.1.D (6 + σ.1.nr) zx_d0 (6 + σ.1.nr)).t = 0
      rw [zx_up1]; rfl
    have NC : zx_C b T n K J (t + 1) (zx_hr σ.1 zx_d0, σ.2.1, σ.2.2.1, σ.2.2.2) := by
      refine zx_newD (k := 6 + σ.1.nr) (H := σ.1) (Q := σ.2.1) (ts := σ.2.2.1) (q := σ.2.2.2) hB (by omega) t5 (fun a y1 y2 => by rw [eK, zw_u_off _ _ _ y2, zw_u_off _ _ _ y2, zw_u_off _ _ _ y1]) (fun y y1 y2 => by rw [eK, zw_u_off _ _ _ (by omega), zw_u_off _ _ _ (by omega), zE_u2 _ _ (by omega)]) ?_ ?_ rfl rfl rfl rfl (fun j hj hz => ?_)
      · show K (zE_h b) 3 = nI σ.1.nc
        rw [eK, zw_u_off _ _ _ (by omega), zw_u_off _ _ _ (by omega), zE_u2 _ _ (by omega)]
        exact t5.2.2.2.2.2.1
      · show K (zE_h b) 5 = nI (σ.1.nr + 1)
        rw [eK, zw_u_off _ _ _ (by omega), zw_u_off _ _ _ (by omega), zE_u1]
      · have hj : j < σ.1.nc ∨ (6 ≤ j ∧ j < 6 + (σ.1.nr + 1)) := hj
        have hz : (zx_up σ.1.D (6 + σ.1.nr) zx_d0 j).t ≠ 0 := hz
        have jk : j ≠ 6 + σ.1.nr := fun e => hz (by rw [e, zx_up1]; rfl)
        refine ⟨jk, by unfold zq_H.has; omega, ?_⟩
        show zx_up σ.1.D (6 + σ.1.nr) zx_d0 j = σ.1.D j
        exact zx_up2 _ _ jk
    have DC0 : zq_DC K (zE_h b + (21 + 2 * (6 + σ.1.nr))) zx_d0 := by
      refine ⟨?_, ?_, fun x y hx hy => absurd hx (Nat.not_lt_zero _)⟩
      · rw [eK, zE_u2 _ _ (by omega), zE_u1]; rfl
      · rw [eK, zE_u1]; rfl
    have hB2 : zx_B (zx_hr σ.1 zx_d0, σ.2.1, σ.2.2.1, σ.2.2.2) := ⟨p3, p4, c6, p6, p7⟩
    obtain ⟨I2, J2, r1, r2⟩ := zx_drawC (sw := sw) hr hB2 (show 6 + σ.1.nr < 10 by omega) Dn p9 (by omega) p10 NC DC0 t3 g1
    rw [r1, Option.bind_some]
    refine ⟨I2, J2, rfl, ?_⟩
    cases hX : zx_draw T n t σ.2.2.1 σ.2.2.2 with
    | inr y => rw [hX] at r2; exact r2
    | inl x =>
      rw [hX] at r2
      obtain ⟨v1, v2, v3⟩ := r2
      refine zx_setD (k := 6 + σ.1.nr) v1 rfl rfl rfl rfl rfl rfl (fun j hj => ?_) (fun h0 => ?_)
      · show zx_up σ.1.D (6 + σ.1.nr) x.2.1 j = zx_up σ.1.D (6 + σ.1.nr) zx_d0 j
        rw [zx_up2 _ _ hj, zx_up2 _ _ hj]
      · show zq_DC I2 (zE_h b + (21 + 2 * (6 + σ.1.nr))) (zx_up σ.1.D (6 + σ.1.nr) x.2.1 (6 + σ.1.nr)) ∧ zq_DX I2 (zE_h b + (21 + 2 * (6 + σ.1.nr))) (zx_up σ.1.D (6 + σ.1.nr) x.2.1 (6 + σ.1.nr))
        rw [zx_up1]
        exact ⟨v2, v3 h0⟩
  · rw [t4, Option.bind_some]
    dsimp only
    rw [if_pos rfl]
    have c : ¬ (σ.1.nr < 4 ∧ t < 500) := fun r => t2 ⟨hk, decide_eq_true r.1, r.2⟩
    rw [if_pos hk] at t5
    rw [if_neg c]
    exact ⟨I1, J, rfl, t5⟩
