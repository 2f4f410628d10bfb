/-! ===== a STUFF, as the class reads it ===== -/
theorem zx_ex (v : Int32) : ∃ m, v = nI m := by
  refine ⟨v.toBitVec.toNat, Int32.toBitVec_inj.1 (BitVec.eq_of_toNat_eq ?_)⟩
  rw [pk_tn v.toBitVec.isLt]
theorem zx_nm_b {T : Nat → Nat} {a : Nat} : ∀ k, (∀ i, i < k → T (a + i) < 256) → zt_nm T a k + 24 ≤ 24 * 10 ^ k
  | 0, _ => by show 0 + 24 ≤ 24 * 1; decide
  | k + 1, h => by
    have ih := zx_nm_b (T := T) (a := a) k (fun i hi => h i (by omega))
    have h1 := h k (by omega)
    show zt_nm T a k * 10 + (T (a + k) - 48) + 24 ≤ 24 * 10 ^ (k + 1)
    rw [Nat.pow_succ]
    omega
theorem zx_V_b {T : Nat → Nat} {n t : Nat} (hT : ∀ j, j < n → T j < 256) (h : zt_K T n t = 3) : zp_V T n t ≤ 240000 := by
  obtain ⟨h1, h2⟩ := zt_K3 (fun q => hT _ q) h
  unfold zp_V
  rw [if_pos h1]
  have hb := (zt_e_b (T := T) h1).2
  unfold zt_v
  rw [if_neg (by rw [h2]; decide)]
  split
  · have h3 := zx_nm_b (T := T) (a := zt_a T n t) (min 4 (zt_e T n (zt_a T n t) - zt_a T n t)) (fun i hi => hT _ (by omega))
    have h4 : 10 ^ (min 4 (zt_e T n (zt_a T n t) - zt_a T n t)) ≤ 10 ^ 4 := Nat.pow_le_pow_right (by decide) (Nat.min_le_left _ _)
    have h5 : (10 : Nat) ^ 4 = 10000 := by decide
    omega
  · split
    · rename_i c1 c2
      unfold zt_K at h
      rw [if_pos h1] at h
      unfold zt_k at h
      rw [if_neg (by rw [h2]; decide), if_neg c1, if_pos c2] at h
      split at h <;> exact absurd h (by decide)
    · omega
/-- the class's value of a token that is no word -/
theorem zx_cvC {T : Nat → Nat} {n t : Nat} {I : zI} {J : zJ} (hX : zp_X T n I J) (ht : t ≤ 500) (hg : zt_go T n t) (h : zt_K T n t = 3 ∨ zt_K T n t = 4) : Int64.toInt32 (J 6 t) = nI (zp_V T n t) := by
  obtain ⟨-, -, x3⟩ := hX.2.2 t ht hg
  have h1 : zt_a T n t < n ∧ zt_L (T (zt_a T n t)) = false := by
    rcases h with h | h
    · exact zt_K3 (fun q => hX.2.1 _ q) h
    · obtain ⟨q1, q2, -⟩ := zx_K4 h
      exact ⟨q1, q2⟩
  rw [x3, if_pos h1.1, lN_i]
  unfold zp_V zt_cv
  rw [if_pos h1.1, if_neg (by rw [h1.2]; decide)]
theorem zx_shareF {sw b : Bool} {I : zI} {J : zJ} {T : Nat → Nat} {n f e : Nat} {rv : Int32} (h : zx_FF b T n I f e) : ∃ v, f_X3_takeShare 7 2 rv I (zE_R sw) J = some (v, I) := by
  obtain ⟨h1, h2, h3, c, t, h4, h5, h6, h7⟩ := id h
  refine ⟨Int64.toInt32 (J 6 t), ?_⟩
  unfold f_X3_takeShare
  simp only [zE_gC, zE_rC sw, zE_sC, zw_g_t, zw_let_e, h7, zE_in (show t < 501 by omega) (by decide), zE_cl (show t < 2 ^ 31 by omega), zp_takeF h.ne, Option.bind_some]
  exact if_pos trivial
/-- a share -/
theorem zx_shareC {sw b : Bool} {I : zI} {J : zJ} {T : Nat → Nat} {n t : Nat} {rv : Int32} {rm : Bool} {σ : zx_S} (hK : zx_B σ) (hq : σ.2.2.2.1 ≤ 9) (h : zx_C b T n I J t σ) (ht : t ≤ 500) (hg : zt_go T n t) (erv : rv = zr_b rm) : (zt_K T n t = 3 ∧ rm = true ∧ t < 500 ∧ ∃ I2, f_X3_takeShare 7 2 rv I (zE_R sw) J = some (nI (zp_V T n t), I2) ∧ zx_C b T n I2 J (t + 1) (σ.1, σ.2.1, σ.2.2.1, zx_qs T n σ.2.2.2 t)) ∨ (¬ (zt_K T n t = 3 ∧ rm = true ∧ t < 500) ∧ ∃ v I2, f_X3_takeShare 7 2 rv I (zE_R sw) J = some (v, I2) ∧ zx_FF b T n I2 (if zt_K T n t = 3 then 2 else 1) t ∧ ∀ a, a ≠ 7 → I2 a = I a) := by
  obtain ⟨⟨b0, b3, b4, b5⟩, a2, -⟩ := id h
  obtain ⟨-, x2, -⟩ := a2.2.2 t ht hg
  have hd : f_X3_takeShare 7 2 rv I (zE_R sw) J = (f_X3_take 7 2 3 rv I (zE_R sw)).bind fun q9 => (if q9.1 = 0 then some (Int64.toInt32 (J 6 t), q9.2) else if Int64.toInt32 (J 6 t) ≤ 1000 then some (Int64.toInt32 (J 6 t), q9.2) else (f_X3_noteLater 7 5 (nI (zt_a T n t)) q9.2).bind fun q12 => (some (Int64.toInt32 (J 6 t), q12))) := by
    unfold f_X3_takeShare
    simp only [zE_gC, zE_rC sw, zE_sC, zw_g_t, zw_let_e, b3, zE_in (show t < 501 by omega) (by decide), zE_cl (show t < 2 ^ 31 by omega), x2]
  rw [hd]
  rcases zx_takeC (sw := sw) (k := 3) (kv := 3) hK h ht hg (by decide) rfl erv with ⟨t1, t2, t3, I1, t4, t5⟩ | ⟨t2, I1, t4, t5, t6⟩
  · refine Or.inl ⟨t1, t2, t3, ?_⟩
    rw [t4, Option.bind_some, zx_cvC a2 ht hg (Or.inl t1)]
    dsimp only
    rw [if_neg zE_10]
    have vb := zx_V_b a2.2.1 t1
    unfold zx_qs
    by_cases c : 1000 < zp_V T n t
    · rw [if_neg (show ¬ nI (zp_V T n t) ≤ (1000 : Int32) from nI_ge (a := 1000) c (by omega)), if_pos c]
      obtain ⟨I2, n1, n2, -⟩ := zx_noteC (f := 5) (p := zt_a T n t) (fv := 5) (pv := nI (zt_a T n t)) hK hq t5 (by decide) rfl rfl
      exact ⟨I2, by rw [n1, Option.bind_some], n2⟩
    · rw [if_pos (show nI (zp_V T n t) ≤ (1000 : Int32) from nI_le (b := 1000) (by omega) (by decide)), if_neg c]
      exact ⟨I1, rfl, t5⟩
  · refine Or.inr ⟨t2, Int64.toInt32 (J 6 t), I1, ?_, t5, t6⟩
    rw [t4, Option.bind_some]
    exact if_pos rfl
/-- shares are set -/
theorem zx_setL {sw b : Bool} {k : Nat} (hk : k < 4) (v2 v3 : Int32) : ∀ (d m N : Nat) (I : zI), m + d = 4 → d + 1 ≤ N → ∃ I2, zw_it (s_X7_setShare_3 (zE_h b + (9 + 3 * k)) v2 v3 (zE_R sw)) N (nI m, I) = some I2 ∧ (∀ a, a ≠ zE_h b + (10 + 3 * k) → a ≠ zE_h b + (11 + 3 * k) → I2 a = I a) ∧ ∀ c, (m ≤ c ∧ c < 4 → I2 (zE_h b + (10 + 3 * k)) c = v2 ∧ I2 (zE_h b + (11 + 3 * k)) c = v3) ∧ (c < m → I2 (zE_h b + (10 + 3 * k)) c = I (zE_h b + (10 + 3 * k)) c ∧ I2 (zE_h b + (11 + 3 * k)) c = I (zE_h b + (11 + 3 * k)) c)
  | d, m, 0, I, _, hN => absurd hN (by omega)
  | 0, m, N + 1, I, hm, hN => by
    refine ⟨I, zE_it0 N ?_, fun _ _ _ => rfl, fun c => ⟨fun q => by omega, fun _ => ⟨rfl, rfl⟩⟩⟩
    unfold s_X7_setShare_3
    rw [if_pos (show (4 : Int32) ≤ nI m from nI_le (a := 4) (by omega) (by omega))]
  | d + 1, m, N + 1, I, hm, hN => by
    have hb := zE_hb b
    have st : s_X7_setShare_3 (zE_h b + (9 + 3 * k)) v2 v3 (zE_R sw) (nI m, I) = some (.inl (nI (m + 1), zw_u (zw_u I (zE_h b + (10 + 3 * k)) m v2) (zE_h b + (11 + 3 * k)) m v3)) := by
      unfold s_X7_setShare_3
      rw [if_neg (show ¬ (4 : Int32) ≤ nI m from nI_ge (b := 4) (by omega) (by decide)), (zE_sHst b k hk).2, zw_g_t, zE_rHs0 sw b k hk, zE_rHs1 sw b k hk, (zE_sHs0 b k hk).2, (zE_sHs1 b k hk).2, (zE_sHs0 b k hk).1, (zE_sHs1 b k hk).1]
      simp only [zw_g_t, zw_let_e, zE_in (show m < 4 by omega) (by decide), zE_cl (show m < 2 ^ 31 by omega), nI_1]
    obtain ⟨I2, r1, r2, r3⟩ := zx_setL (sw := sw) (b := b) hk v2 v3 d (m + 1) N (zw_u (zw_u I (zE_h b + (10 + 3 * k)) m v2) (zE_h b + (11 + 3 * k)) m v3) (by omega) (by omega)
    refine ⟨I2, (zE_it1 N st).trans r1, fun a x1 x2 => by rw [r2 a x1 x2, zw_u_off _ _ _ x2, zw_u_off _ _ _ x1], fun c => ⟨fun q => ?_, fun q => ?_⟩⟩
    · by_cases e : c = m
      · subst e
        obtain ⟨y1, y2⟩ := (r3 c).2 (by omega)
        rw [y1, y2, zw_u_off _ _ _ (by omega), zE_u1, zE_u1]
        exact ⟨rfl, rfl⟩
      · exact (r3 c).1 ⟨by omega, q.2⟩
    · obtain ⟨y1, y2⟩ := (r3 c).2 (by omega)
      rw [y1, y2, zw_u_off _ _ _ (by omega), zE_u2 _ _ (by omega), zE_u2 _ _ (by omega), zw_u_off _ _ _ (by omega)]
      exact ⟨rfl, rfl⟩
theorem zx_setC {sw b : Bool} {I : zI} {k m : Nat} (hk : k < 4) (hm : m ≤ 4) (v2 v3 : Int32) : ∃ I2, f_X7_setShare (zE_h b + (9 + 3 * k)) (nI m) v2 v3 I (zE_R sw) = some I2 ∧ (∀ a, a ≠ zE_h b + (10 + 3 * k) → a ≠ zE_h b + (11 + 3 * k) → I2 a = I a) ∧ ∀ c, (m ≤ c ∧ c < 4 → I2 (zE_h b + (10 + 3 * k)) c = v2 ∧ I2 (zE_h b + (11 + 3 * k)) c = v3) ∧ (c < m → I2 (zE_h b + (10 + 3 * k)) c = I (zE_h b + (10 + 3 * k)) c ∧ I2 (zE_h b + (11 + 3 * k)) c = I (zE_h b + (11 + 3 * k)) c) := by
  obtain ⟨I2, r1, r2, r3⟩ := zx_setL (sw := sw) (b := b) hk v2 v3 (4 - m) m 1000000 I (by omega) (by omega)
  refine ⟨I2, ?_, r2, r3⟩
  unfold f_X7_setShare
  rw [r1, Option.bind_some]
/-- the newest stuff becomes another -/
theorem zx_stuffU {b : Bool} {T : Nat → Nat} {n : Nat} {I I2 : zI} {J : zJ} {t : Nat} {H : zq_H} {Q : zr_Q} {ts : List Nat} {q : Nat × Nat} {fl sl fl2 sl2 : Nat → Nat} {e e2 : Nat} (hB : zx_B (H, Q, ts, q)) (h4 : H.ns < 4) (h : zx_C b T n I J t (zx_hs H fl sl e, Q, ts, q)) (f : ∀ a, a ≠ zE_h b + (9 + 3 * H.ns) → a ≠ zE_h b + (10 + 3 * H.ns) → a ≠ zE_h b + (11 + 3 * H.ns) → I2 a = I a) (hs : q.1 = 0 → ∀ c, c < 4 → I2 (zE_h b + (10 + 3 * H.ns)) c = nI (fl2 c) ∧ I2 (zE_h b + (11 + 3 * H.ns)) c = nI (sl2 c)) (he : q.1 = 0 → I2 (zE_h b + (9 + 3 * H.ns)) 2 = nI e2) : zx_C b T n I2 J t (zx_hs H fl2 sl2 e2, Q, ts, q) := by
  have hb := zE_hb b
  obtain ⟨k1, k2, k3, k4, k5⟩ := hB
  have k1 : H.ns ≤ 4 := k1
  have k2 : H.nc ≤ 6 := k2
  have k3 : H.nr ≤ 4 := k3
  have k4 : Q.1 ≤ 8 := k4
  have k5 : Q.2.1 ≤ 8 := k5
  obtain ⟨⟨b0, b3, b4, b5⟩, a2, a3, a4, a5, a6, a7, a8, a9, cl, a10, a11, a12⟩ := h
  have fh : I2 (zE_h b) = I (zE_h b) := f _ (by omega) (by omega) (by omega)
  have f7 : I2 7 = I 7 := f _ (by omega) (by omega) (by omega)
  refine ⟨⟨by rw [f7]; exact b0, by rw [f7]; exact b3, by rw [f7]; exact b4, by rw [f7]; exact b5⟩, zp_X_tr a2 (f 4 (by omega) (by omega) (by omega)) (f 5 (by omega) (by omega) (by omega)) rfl, zt_TC_tr a3 (f 2 (by omega) (by omega) (by omega)) (f 3 (by omega) (by omega) (by omega)), zx_NC_tr a4 (by rw [fh]), by rw [fh]; exact a5, by rw [fh]; exact a6, by rw [fh]; exact a7, by rw [fh]; exact a8, by rw [fh]; exact a9, cl, a10, by rw [fh]; exact a11, fun h0 => ?_⟩
  obtain ⟨⟨e1, e2', e3, e4, e5⟩, d2⟩ := a12 h0
  refine ⟨⟨by rw [fh]; exact e1, by rw [fh]; exact e2', by rw [fh]; exact e3, fun j hj => ?_, fun j hj hz => ?_⟩, fun j hj => ?_⟩
  · have hj : j < H.ns + 1 := hj
    show (∀ c, c < 4 → I2 (zE_h b + (10 + 3 * j)) c = nI (zx_up H.fl H.ns fl2 j c) ∧ I2 (zE_h b + (11 + 3 * j)) c = nI (zx_up H.sl H.ns sl2 j c)) ∧ I2 (zE_h b + (9 + 3 * j)) 2 = nI (zx_up H.ea H.ns e2 j)
    by_cases c : j = H.ns
    · rw [c, zx_up1, zx_up1, zx_up1]
      exact ⟨hs h0, he h0⟩
    · have x4 := e4 j (show j < H.ns + 1 from hj)
      have x4 : (∀ c, c < 4 → I (zE_h b + (10 + 3 * j)) c = nI (zx_up H.fl H.ns fl j c) ∧ I (zE_h b + (11 + 3 * j)) c = nI (zx_up H.sl H.ns sl j c)) ∧ I (zE_h b + (9 + 3 * j)) 2 = nI (zx_up H.ea H.ns e j) := x4
      rw [zx_up2 _ _ c, zx_up2 _ _ c, zx_up2 _ _ c] at x4
      rw [zx_up2 _ _ c, zx_up2 _ _ c, zx_up2 _ _ c, f (zE_h b + (10 + 3 * j)) (by omega) (by omega) (by omega), f (zE_h b + (11 + 3 * j)) (by omega) (by omega) (by omega), f (zE_h b + (9 + 3 * j)) (by omega) (by omega) (by omega)]
      exact x4
  · have hj : H.has j := hj
    have h10 := zx_has10 k2 k3 hj
    have y1 : I2 (zE_h b + (21 + 2 * j)) = I (zE_h b + (21 + 2 * j)) := f _ (by omega) (by omega) (by omega)
    refine ⟨zq_DC_tr (e5 j hj hz).1 y1 (f _ (by omega) (by omega) (by omega)), ?_⟩
    have h6 := (e5 j hj hz).2
    unfold zq_DX at h6 ⊢
    rw [y1]
    exact h6
  · have hj : zr_has Q j := hj
    have j16 := zx_has16 k4 k5 hj
    refine zx_RC_tr (d2 j hj) (f _ (by omega) (by omega) (by omega)) (fun i _ => ?_) (Nat.le_refl _)
    rw [f (zE_h b + 7) (by omega) (by omega) (by omega), f (zE_h b + 8) (by omega) (by omega) (by omega)]
    exact ⟨rfl, rfl⟩
/-- a stuff more -/
theorem zc_addStuff {sw b : Bool} {I : zI} {k : Nat} (h1 : I (zE_h b) 1 = nI k) (hk : k < 4) : f_X1_addStuff (zE_h b) I (zE_R sw) = some (zE_h b + (9 + 3 * k), zw_u (zw_u I (zE_h b) 1 (nI (k + 1))) (zE_h b + (9 + 3 * k)) 2 200) := by
  have r0 := (zE_rH sw b).1
  have g1 := (zE_gH b).2.1
  have s1 := (zE_sH b).2.1
  unfold f_X1_addStuff
  rw [(zE_gH b).1, zw_g_t, r0, g1, zw_g_t, s1, h1, zE_in hk (by decide), zw_g_t, zE_cl (show k < 2 ^ 31 by omega), zE_rHs sw b k hk, (zE_sHst b k hk).2, zw_g_t, zw_let_e, zw_let_e, nI_1]
theorem zx_stuffA {b : Bool} {T : Nat → Nat} {n : Nat} {I : zI} {J : zJ} {t : Nat} {σ : zx_S} (hB : zx_B σ) (h4 : σ.1.ns < 4) (h : zx_C b T n I J t σ) : ∃ fl sl, zx_C b T n (zw_u (zw_u I (zE_h b) 1 (nI (σ.1.ns + 1))) (zE_h b + (9 + 3 * σ.1.ns)) 2 200) J t (zx_hs σ.1 fl sl 200, σ.2.1, σ.2.2.1, σ.2.2.2) := by
  have hb := zE_hb b
  obtain ⟨k1, k2, k3, k4, k5⟩ := hB
  obtain ⟨⟨b0, b3, b4, b5⟩, a2, a3, a4, a5, a6, a7, a8, a9, cl, a10, a11, a12⟩ := h
  obtain ⟨I2, eI⟩ : ∃ I2, I2 = zw_u (zw_u I (zE_h b) 1 (nI (σ.1.ns + 1))) (zE_h b + (9 + 3 * σ.1.ns)) 2 200 := ⟨_, rfl⟩
  rw [← eI]
  refine ⟨fun c => (zx_ex (I2 (zE_h b + (10 + 3 * σ.1.ns)) c)).choose, fun c => (zx_ex (I2 (zE_h b + (11 + 3 * σ.1.ns)) c)).choose, ?_⟩
  have f : ∀ a, a ≠ zE_h b → a ≠ zE_h b + (9 + 3 * σ.1.ns) → I2 a = I a := fun a x1 x2 => by rw [eI, zw_u_off _ _ _ x2, zw_u_off _ _ _ x1]
  have fh : ∀ y, y ≠ 1 → I2 (zE_h b) y = I (zE_h b) y := fun y hy => by rw [eI, zw_u_off _ _ _ (by omega), zE_u2 _ _ (by omega)]
  have h1 : I2 (zE_h b) 1 = nI (σ.1.ns + 1) := by rw [eI, zw_u_off _ _ _ (by omega), zE_u1]
  have f7 : I2 7 = I 7 := f _ (by omega) (by omega)
  refine ⟨⟨by rw [f7]; exact b0, by rw [f7]; exact b3, by rw [f7]; exact b4, by rw [f7]; exact b5⟩, zp_X_tr a2 (f 4 (by omega) (by omega)) (f 5 (by omega) (by omega)) rfl, zt_TC_tr a3 (f 2 (by omega) (by omega)) (f 3 (by omega) (by omega)), zx_NC_tr a4 (fh 11 (by decide)), h1, (fh 3 (by decide)).trans a6, (fh 5 (by decide)).trans a7, (fh 7 (by decide)).trans a8, (fh 9 (by decide)).trans a9, cl, a10, (fh 14 (by decide)).trans a11, fun h0 => ?_⟩
  obtain ⟨⟨e1, e2', e3, e4, e5⟩, d2⟩ := a12 h0
  refine ⟨⟨h1, (fh 3 (by decide)).trans e2', (fh 5 (by decide)).trans e3, fun j hj => ?_, fun j hj hz => ?_⟩, fun j hj => ?_⟩
  · have hj : j < σ.1.ns + 1 := hj
    show (∀ c, c < 4 → I2 (zE_h b + (10 + 3 * j)) c = nI (zx_up σ.1.fl σ.1.ns _ j c) ∧ I2 (zE_h b + (11 + 3 * j)) c = nI (zx_up σ.1.sl σ.1.ns _ j c)) ∧ I2 (zE_h b + (9 + 3 * j)) 2 = nI (zx_up σ.1.ea σ.1.ns 200 j)
    by_cases c : j = σ.1.ns
    · rw [c, zx_up1, zx_up1, zx_up1]
      exact ⟨fun c _ => ⟨(zx_ex (I2 (zE_h b + (10 + 3 * σ.1.ns)) c)).choose_spec, (zx_ex (I2 (zE_h b + (11 + 3 * σ.1.ns)) c)).choose_spec⟩, by rw [eI, zE_u1]; rfl⟩
    · rw [zx_up2 _ _ c, zx_up2 _ _ c, zx_up2 _ _ c, f (zE_h b + (10 + 3 * j)) (by omega) (by omega), f (zE_h b + (11 + 3 * j)) (by omega) (by omega), f (zE_h b + (9 + 3 * j)) (by omega) (by omega)]
      exact e4 j (by omega)
  · have hj : σ.1.has j := hj
    have h10 := zx_has10 k2 k3 hj
    have y1 : I2 (zE_h b + (21 + 2 * j)) = I (zE_h b + (21 + 2 * j)) := f _ (by omega) (by omega)
    refine ⟨zq_DC_tr (e5 j hj hz).1 y1 (f _ (by omega) (by omega)), ?_⟩
    have h6 := (e5 j hj hz).2
    unfold zq_DX at h6 ⊢
    rw [y1]
    exact h6
  · have hj : zr_has σ.2.1 j := hj
    have j16 := zx_has16 k4 k5 hj
    refine zx_RC_tr (d2 j hj) (f _ (by omega) (by omega)) (fun i _ => ?_) (Nat.le_refl _)
    rw [f (zE_h b + 7) (by omega) (by omega), f (zE_h b + 8) (by omega) (by omega)]
    exact ⟨rfl, rfl⟩
