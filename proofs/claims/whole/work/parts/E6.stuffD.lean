/-! ===== a STUFF, as the class reads it: its shares, the whole ===== -/
theorem zx_from0 (f g : Nat → Nat) (v : Nat) : zx_from f 0 v = zx_from g 0 v := by
  funext c
  unfold zx_from
  rw [if_pos (Nat.zero_le _), if_pos (Nat.zero_le _)]
theorem zx_sh0 {T : Nat → Nat} {n f t : Nat} {q : Nat × Nat} (fl sl fl2 sl2 : Nat → Nat) : zx_sh T n (f + 1) t 0 fl sl q = zx_sh T n (f + 1) t 0 fl2 sl2 q := by
  unfold zx_sh
  rw [zx_from0 fl fl2, zx_from0 sl sl2]
theorem zx_q9 {T : Nat → Nat} {n t : Nat} {q : Nat × Nat} (h : zx_qk T n t q) : q.1 ≤ 9 := by
  by_cases c : q.1 = 0
  · omega
  · have := (h c).1; omega
/-- the loop's end -/
theorem zx_54e {R : zR} {J : zJ} {o N : Nat} {m : Int32} {I : zI} : zw_it (s_X3_readStuff_54 7 2 o R J) (N + 1) (0, m, I) = some I := by
  refine zE_it0 N ?_
  unfold s_X3_readStuff_54
  rw [if_pos rfl]
theorem zx_77 {R : zR} {J : zJ} {o m : Nat} {I : zI} (hm : m ≤ 4) : s_X3_readStuff_54 7 2 o R J (1, nI m, I) = j_X3_readStuff_77_54 7 2 o (nI m) 7 2 (zr_b (decide (m < 4))) I R J := by
  unfold s_X3_readStuff_54
  dsimp only
  rw [if_neg zE_10, if_neg (show ¬ (4 : Int32) < nI m from nI_nlt (a := 4) (b := m) (by omega) (by decide))]
  by_cases c : m < 4
  · rw [if_neg (show ¬ (4 : Int32) ≤ nI m from nI_ge (b := 4) c (by decide)), decide_eq_true c]; rfl
  · rw [if_pos (show (4 : Int32) ≤ nI m from nI_le (a := 4) (by omega) (by omega)), decide_eq_false c]; rfl
/-- a round behind a fault -/
theorem zx_77F {sw b : Bool} {I : zI} {J : zJ} {T : Nat → Nat} {n f e k m : Nat} {s2 : Int32} (h : zx_FF b T n I f e) (hk : k < 4) (hm : m ≤ 4) : ∃ I2, j_X3_readStuff_77_54 7 2 (zE_h b + (9 + 3 * k)) (nI m) 7 2 s2 I (zE_R sw) J = some (.inl (0, nI (m + 1), I2)) ∧ zx_FF b T n I2 f e := by
  have hb := zE_hb b
  have g7 : zw_gc 7 3 = true := by simp only [zE_gC]
  obtain ⟨v1, s1⟩ := zx_shareF (sw := sw) (J := J) (rv := s2) h
  obtain ⟨v2, s2'⟩ := zx_shareF (sw := sw) (J := J) (rv := 1) h
  obtain ⟨I2, r1, r2, -⟩ := zx_setC (sw := sw) (b := b) (I := I) hk hm v1 v2
  have F2 : zx_FF b T n I2 f e := h.fr (by rw [r2 7 (by omega) (by omega)]) (by rw [r2 7 (by omega) (by omega)]) (by rw [r2 7 (by omega) (by omega)]) (by rw [r2 (zE_h b) (by omega) (by omega)])
  refine ⟨I2, ?_, F2⟩
  unfold j_X3_readStuff_77_54 j_X3_readStuff_125_54 j_X3_readStuff_126_54
  rw [g7, zw_g_t, s1, Option.bind_some, zw_g_t, s2', Option.bind_some, (zE_sHst b k hk).2, zw_g_t, r1, Option.bind_some, zp_kindF F2.ne, Option.bind_some, if_pos (show ¬ (1 : Int32) = 7 by decide), zw_let_e, nI_1]
/-- the shares -/
theorem zx_shC {sw b : Bool} {J : zJ} {T : Nat → Nat} {n : Nat} {H : zq_H} {Q : zr_Q} {ts : List Nat} (hB : zx_B (H, Q, ts, (0, 0))) (h4 : H.ns < 4) : ∀ (f t m N : Nat) (fl sl : Nat → Nat) (q : Nat × Nat) (I : zI), m + f = 5 → m ≤ 4 → f + 2 ≤ N → zx_C b T n I J t (zx_hs H fl sl 200, Q, ts, q) → zx_qk T n t q → t ≤ 500 → zt_go T n t → ∃ I2, zw_it (s_X3_readStuff_54 7 2 (zE_h b + (9 + 3 * H.ns)) (zE_R sw) J) N (1, nI m, I) = some I2 ∧ match zx_sh T n f t m fl sl q with
    | .inl x => zx_C b T n I2 J x.1 (zx_hs H x.2.1 x.2.2.1 200, Q, ts, x.2.2.2)
    | .inr y => zx_FF b T n I2 y.1 y.2
  | 0, t, m, N, fl, sl, q, I, hm, hm4, hN, h, hq, ht, hg => by
    omega
  | f + 1, t, m, N, fl, sl, q, I, hm, hm4, hN, h, hq, ht, hg => by
    obtain ⟨N, rfl⟩ : ∃ N', N = N' + 2 := ⟨N - 2, by omega⟩
    have hb := zE_hb b
    have g7 : zw_gc 7 3 = true := by simp only [zE_gC]
    have hBh : ∀ fl sl q, zx_B (zx_hs H fl sl 200, Q, ts, q) := fun fl sl q => ⟨h4, hB.2.1, hB.2.2.1, hB.2.2.2.1, hB.2.2.2.2⟩
    have st := zx_77 (R := zE_R sw) (J := J) (o := zE_h b + (9 + 3 * H.ns)) (I := I) hm4
    unfold zx_sh
    -- how a fault ends the round
    have bad : ∀ (K : zI) (v : Int32) (f0 e0 : Nat), f_X3_takeShare 7 2 (zr_b (decide (m < 4))) I (zE_R sw) J = some (v, K) → zx_FF b T n K f0 e0 → ∃ I2, zw_it (s_X3_readStuff_54 7 2 (zE_h b + (9 + 3 * H.ns)) (zE_R sw) J) (N + 2) (1, nI m, I) = some I2 ∧ zx_FF b T n I2 f0 e0 := by
      intro K v f0 e0 hs hF
      obtain ⟨v2, s2⟩ := zx_shareF (sw := sw) (J := J) (rv := 1) hF
      obtain ⟨I2, r1, r2, -⟩ := zx_setC (sw := sw) (b := b) (I := K) h4 hm4 v v2
      have F2 : zx_FF b T n I2 f0 e0 := hF.fr (by rw [r2 7 (by omega) (by omega)]) (by rw [r2 7 (by omega) (by omega)]) (by rw [r2 7 (by omega) (by omega)]) (by rw [r2 (zE_h b) (by omega) (by omega)])
      refine ⟨I2, ?_, F2⟩
      have e1 : s_X3_readStuff_54 7 2 (zE_h b + (9 + 3 * H.ns)) (zE_R sw) J (1, nI m, I) = some (.inl (0, nI (m + 1), I2)) := by
        rw [st]
        unfold j_X3_readStuff_77_54 j_X3_readStuff_125_54 j_X3_readStuff_126_54
        rw [g7, zw_g_t, hs, Option.bind_some, zw_g_t, s2, Option.bind_some, (zE_sHst b H.ns h4).2, zw_g_t, r1, Option.bind_some, zp_kindF F2.ne, Option.bind_some, if_pos (show ¬ (1 : Int32) = 7 by decide), zw_let_e, nI_1]
      rw [zE_it1 (N + 1) e1]
      exact zx_54e
    rcases zx_shareC (sw := sw) (rm := decide (m < 4)) (hBh fl sl q) (zx_q9 hq) h ht hg rfl with ⟨t1, t2, t3, I1, t4, t5⟩ | ⟨t2, v, I1, t4, t5, -⟩
    · have c4 : m < 4 := of_decide_eq_true t2
      rw [if_pos t1, if_pos (show m < 4 ∧ t < 500 from ⟨c4, t3⟩), zx_need]
      have g1 : zt_go T n (t + 1) := zp_go hg (by omega) (by omega)
      have q1 : zx_qk T n (t + 1) (zx_qs T n q t) := zx_qs_k hq (by omega) (by omega)
      have t5 : zx_C b T n I1 J (t + 1) (zx_hs H fl sl 200, Q, ts, zx_qs T n q t) := t5
      rcases zx_shareC (sw := sw) (rv := 1) (rm := true) (hBh fl sl (zx_qs T n q t)) (zx_q9 q1) t5 (by omega) g1 rfl with ⟨u1, -, u3, I2, u4, u5⟩ | ⟨u2, v, I2, u4, u5, -⟩
      · rw [if_pos (show zt_K T n (t + 1) = 3 ∧ t + 1 < 500 from ⟨u1, u3⟩)]
        have g2 : zt_go T n (t + 2) := zp_go g1 (by omega) (by omega)
        have q2 : zx_qk T n (t + 2) (zx_qs T n (zx_qs T n q t) (t + 1)) := zx_qs_k q1 (by omega) (by omega)
        obtain ⟨I3, r1, r2, r3⟩ := zx_setC (sw := sw) (b := b) (I := I2) h4 hm4 (nI (zp_V T n t)) (nI (zp_V T n (t + 1)))
        have u5 : zx_C b T n I2 J (t + 2) (zx_hs H fl sl 200, Q, ts, zx_qs T n (zx_qs T n q t) (t + 1)) := u5
        have M : zx_C b T n I3 J (t + 2) (zx_hs H (zx_from fl m (zp_V T n t)) (zx_from sl m (zp_V T n (t + 1))) 200, Q, ts, zx_qs T n (zx_qs T n q t) (t + 1)) := by
          refine zx_stuffU hB h4 u5 (fun a x1 x2 x3 => r2 a x2 x3) (fun h0 c hc => ?_) (fun h0 => ?_)
          · have hH := ((u5.2.2.2.2.2.2.2.2.2.choose_spec.2.2 h0).1.2.2.2.1 H.ns (show H.ns < H.ns + 1 by omega)).1 c hc
            have hH : I2 (zE_h b + (10 + 3 * H.ns)) c = nI (zx_up H.fl H.ns fl H.ns c) ∧ I2 (zE_h b + (11 + 3 * H.ns)) c = nI (zx_up H.sl H.ns sl H.ns c) := hH
            rw [zx_up1, zx_up1] at hH
            unfold zx_from
            by_cases c5 : m ≤ c
            · rw [if_pos c5, if_pos c5]; exact (r3 c).1 ⟨c5, hc⟩
            · rw [if_neg c5, if_neg c5, ((r3 c).2 (by omega)).1, ((r3 c).2 (by omega)).2]; exact hH
          · have hH := ((u5.2.2.2.2.2.2.2.2.2.choose_spec.2.2 h0).1.2.2.2.1 H.ns (show H.ns < H.ns + 1 by omega)).2
            have hH : I2 (zE_h b + (9 + 3 * H.ns)) 2 = nI (zx_up H.ea H.ns 200 H.ns) := hH
            rw [zx_up1] at hH
            rw [r2 _ (by omega) (by omega)]
            exact hH
        have kd := zx_kindC (sw := sw) M (by omega) g2
        have kb := zp_K M.2.1 (t + 2)
        have hd : s_X3_readStuff_54 7 2 (zE_h b + (9 + 3 * H.ns)) (zE_R sw) J (1, nI m, I) = if ¬ nI (zt_K T n (t + 2)) = 7 then some (.inl (0, nI (m + 1), I3)) else (f_X3_take 7 2 7 1 I3 (zE_R sw)).bind fun q24 => (if q24.1 = 0 then some (.inl (0, nI (m + 1), q24.2)) else some (.inl (1, nI (m + 1), q24.2))) := by
          rw [st]
          unfold j_X3_readStuff_77_54 j_X3_readStuff_125_54 j_X3_readStuff_126_54
          rw [g7, zw_g_t, t4, Option.bind_some, zw_g_t, u4, Option.bind_some, (zE_sHst b H.ns h4).2, zw_g_t, r1, Option.bind_some, kd, Option.bind_some]
          simp only [zw_let_e, nI_1]
        by_cases c7 : zt_K T n (t + 2) = 7
        · rw [if_pos c7]
          rw [if_neg (show ¬ ¬ nI (zt_K T n (t + 2)) = (7 : Int32) from fun r => r (by rw [c7]; rfl))] at hd
          rcases zx_takeC (sw := sw) (k := 7) (kv := 7) (rv := 1) (rm := true) (hBh _ _ _) M (by omega) g2 (by decide) rfl rfl with ⟨-, -, w3, I4, w4, w5⟩ | ⟨w2, I4, w4, w5, -⟩
          · rw [if_pos w3]
            rw [w4, Option.bind_some, if_neg zE_10] at hd
            rw [zE_it1 (N + 1) hd]
            exact zx_shC hB h4 f (t + 3) (m + 1) (N + 1) _ _ _ I4 (by omega) (by omega) (by omega) w5 (zx_qk_up q2 (by omega)) (by omega) (zp_go g2 (by omega) (by omega))
          · rw [if_neg (show ¬ t + 2 < 500 from fun r => w2 ⟨c7, rfl, r⟩)]
            rw [w4, Option.bind_some, if_pos rfl] at hd
            rw [zE_it1 (N + 1) hd]
            rw [if_pos c7] at w5
            exact ⟨I4, zx_54e, w5⟩
        · rw [if_neg c7]
          rw [if_pos (show ¬ nI (zt_K T n (t + 2)) = (7 : Int32) from zr_ne (b := 7) c7 (by omega) (by decide))] at hd
          rw [zE_it1 (N + 1) hd]
          exact ⟨I3, zx_54e, M⟩
      · rw [if_neg (show ¬ (zt_K T n (t + 1) = 3 ∧ t + 1 < 500) from fun r => u2 ⟨r.1, rfl, r.2⟩)]
        obtain ⟨I3, r1, r2, -⟩ := zx_setC (sw := sw) (b := b) (I := I2) h4 hm4 (nI (zp_V T n t)) v
        have F2 : zx_FF b T n I3 (if zt_K T n (t + 1) = 3 then 2 else 1) (t + 1) := u5.fr (by rw [r2 7 (by omega) (by omega)]) (by rw [r2 7 (by omega) (by omega)]) (by rw [r2 7 (by omega) (by omega)]) (by rw [r2 (zE_h b) (by omega) (by omega)])
        refine ⟨I3, ?_, F2⟩
        have e1 : s_X3_readStuff_54 7 2 (zE_h b + (9 + 3 * H.ns)) (zE_R sw) J (1, nI m, I) = some (.inl (0, nI (m + 1), I3)) := by
          rw [st]
          unfold j_X3_readStuff_77_54 j_X3_readStuff_125_54 j_X3_readStuff_126_54
          rw [g7, zw_g_t, t4, Option.bind_some, zw_g_t, u4, Option.bind_some, (zE_sHst b H.ns h4).2, zw_g_t, r1, Option.bind_some, zp_kindF F2.ne, Option.bind_some, if_pos (show ¬ (1 : Int32) = 7 by decide), zw_let_e, nI_1]
        rw [zE_it1 (N + 1) e1]
        exact zx_54e
    · by_cases c3 : zt_K T n t = 3
      · rw [if_pos c3, if_neg (show ¬ (m < 4 ∧ t < 500) from fun r => t2 ⟨c3, decide_eq_true r.1, r.2⟩)]
        rw [if_pos c3] at t5
        exact bad I1 v 2 t t4 t5
      · rw [if_neg c3]
        rw [if_neg c3] at t5
        exact bad I1 v 1 t t4 t5
theorem zx_164F {sw b : Bool} {I : zI} {J : zJ} {T : Nat → Nat} {n f e : Nat} (h : zx_FF b T n I f e) : j_X3_readStuff_164 7 2 I (zE_R sw) J = some (I, J) := by
  have g7 : zw_gc 7 3 = true := by simp only [zE_gC]
  unfold j_X3_readStuff_164
  rw [g7, zw_g_t, zp_takeF h.ne, Option.bind_some]
theorem zx_133F {sw b : Bool} {I : zI} {J : zJ} {T : Nat → Nat} {n f e o : Nat} (h : zx_FF b T n I f e) : j_X3_readStuff_133 7 2 o I (zE_R sw) J = some (I, J) := by
  have g7 : zw_gc 7 3 = true := by simp only [zE_gC]
  unfold j_X3_readStuff_133
  rw [g7, zw_g_t, zp_kindF h.ne, Option.bind_some, if_pos (show ¬ (1 : Int32) = 23 by decide), zx_164F h]
/-- what it eats, and its end -/
theorem zx_eatC {sw b : Bool} {I : zI} {J : zJ} {T : Nat → Nat} {n t : Nat} {H : zq_H} {Q : zr_Q} {ts : List Nat} {q : Nat × Nat} {fl sl : Nat → Nat} (hB : zx_B (H, Q, ts, (0, 0))) (h4 : H.ns < 4) (h : zx_C b T n I J t (zx_hs H fl sl 200, Q, ts, q)) (hq : zx_qk T n t q) (ht : t ≤ 500) (hg : zt_go T n t) : ∃ I2, j_X3_readStuff_133 7 2 (zE_h b + (9 + 3 * H.ns)) I (zE_R sw) J = some (I2, J) ∧ zx_RC b T n I2 J (match zx_ea T n t q with
    | .inr y => .inr y
    | .inl z => zx_need (zt_K T n) 5 z.1 (.inl (z.1 + 1, (zx_hs H fl sl z.2.1, Q, ts, z.2.2)))) := by
  have hb := zE_hb b
  have g7 : zw_gc 7 3 = true := by simp only [zE_gC]
  have hBh : ∀ fl sl e q, zx_B (zx_hs H fl sl e, Q, ts, q) := fun fl sl e q => ⟨h4, hB.2.1, hB.2.2.1, hB.2.2.2.1, hB.2.2.2.2⟩
  have kd := zx_kindC (sw := sw) h ht hg
  have kb := zp_K h.2.1 t
  unfold j_X3_readStuff_133 zx_ea
  rw [g7, zw_g_t, kd, Option.bind_some]
  by_cases c : zt_K T n t = 23
  · rw [if_neg (show ¬ ¬ nI (zt_K T n t) = (23 : Int32) from fun r => r (by rw [c]; rfl)), if_pos c]
    rcases zx_takeC (sw := sw) (k := 23) (kv := 23) (rv := 1) (rm := true) (hBh fl sl 200 q) h ht hg (by decide) rfl rfl with ⟨-, -, t3, I1, t4, t5⟩ | ⟨t2, I1, t4, t5, -⟩
    · rw [t4, Option.bind_some, if_pos t3, if_neg zE_10, zx_need]
      dsimp only
      have g1 : zt_go T n (t + 1) := zp_go hg (by omega) (by omega)
      rcases zx_shareC (sw := sw) (rv := 1) (rm := true) (hBh fl sl 200 q) (zx_q9 hq) t5 (by omega) g1 rfl with ⟨u1, -, u3, I2, u4, u5⟩ | ⟨u2, v, I2, u4, u5, -⟩
      · rw [u4, Option.bind_some, (zE_sHst b H.ns h4).2, zw_g_t, zw_let_e, if_pos (show zt_K T n (t + 1) = 3 ∧ t + 1 < 500 from ⟨u1, u3⟩)]
        dsimp only
        have u5 : zx_C b T n I2 J (t + 2) (zx_hs H fl sl 200, Q, ts, zx_qs T n q (t + 1)) := u5
        have M : zx_C b T n (zw_u I2 (zE_h b + (9 + 3 * H.ns)) 2 (nI (zp_V T n (t + 1)))) J (t + 2) (zx_hs H fl sl (zp_V T n (t + 1)), Q, ts, zx_qs T n q (t + 1)) := by
          refine zx_stuffU hB h4 u5 (fun a x1 x2 x3 => zw_u_off _ _ _ x1) (fun h0 c hc => ?_) (fun h0 => zE_u1 _ _ _ _)
          have hH := ((u5.2.2.2.2.2.2.2.2.2.choose_spec.2.2 h0).1.2.2.2.1 H.ns (show H.ns < H.ns + 1 by omega)).1 c hc
          have hH : I2 (zE_h b + (10 + 3 * H.ns)) c = nI (zx_up H.fl H.ns fl H.ns c) ∧ I2 (zE_h b + (11 + 3 * H.ns)) c = nI (zx_up H.sl H.ns sl H.ns c) := hH
          rw [zx_up1, zx_up1] at hH
          rw [zw_u_off _ _ _ (by omega), zw_u_off _ _ _ (by omega)]
          exact hH
        obtain ⟨v, I5, s1, s2⟩ := zx_semiC (sw := sw) (hBh _ _ _ _) M (by omega) (zp_go g1 (by omega) (by omega))
        refine ⟨I5, ?_, s2⟩
        unfold j_X3_readStuff_164
        rw [g7, zw_g_t, s1, Option.bind_some]
      · rw [u4, Option.bind_some, (zE_sHst b H.ns h4).2, zw_g_t, zw_let_e, if_neg (show ¬ (zt_K T n (t + 1) = 3 ∧ t + 1 < 500) from fun r => u2 ⟨r.1, rfl, r.2⟩)]
        dsimp only
        have F := u5.u (o := zE_h b + (9 + 3 * H.ns)) (j := 2) v (by omega) (by omega)
        exact ⟨_, zx_164F F, F⟩
    · rw [t4, Option.bind_some, if_neg (show ¬ t < 500 from fun r => t2 ⟨c, rfl, r⟩), if_pos rfl]
      dsimp only
      rw [if_pos c] at t5
      exact ⟨_, zx_164F t5, t5⟩
  · rw [if_pos (show ¬ nI (zt_K T n t) = (23 : Int32) from zr_ne (b := 23) c (by omega) (by decide)), if_neg c]
    obtain ⟨v, I5, s1, s2⟩ := zx_semiC (sw := sw) (hBh _ _ _ _) h ht hg
    refine ⟨I5, ?_, s2⟩
    unfold j_X3_readStuff_164
    rw [g7, zw_g_t, s1, Option.bind_some]
/-- a STUFF behind its colon -/
def zx_st (R : zR) (h : Nat) (I : zI) (J : zJ) : Option (zI × zJ) := (f_X1_addStuff h I R).bind fun q11 => ((zw_it (s_X3_readStuff_54 7 2 q11.1 R J) 1000000 (1, 0, q11.2)).bind fun q26 => (j_X3_readStuff_133 7 2 q11.1 q26 R J))
theorem zx_stF {sw b : Bool} {I : zI} {J : zJ} {T : Nat → Nat} {n f e k : Nat} (h : zx_FF b T n I f e) (h1 : I (zE_h b) 1 = nI k) (hk : k < 4) : ∃ I2, zx_st (zE_R sw) (zE_h b) I J = some (I2, J) ∧ zx_FF b T n I2 f e := by
  have hb := zE_hb b
  unfold zx_st
  rw [zc_addStuff h1 hk, Option.bind_some]
  dsimp only
  have F1 := (h.u (o := zE_h b) (j := 1) (nI (k + 1)) (by omega) (by omega)).u (o := zE_h b + (9 + 3 * k)) (j := 2) 200 (by omega) (by omega)
  obtain ⟨I2, r1, r2⟩ := zx_77F (sw := sw) (J := J) (k := k) (m := 0) (s2 := zr_b (decide (0 < 4))) F1 hk (by decide)
  have st := zx_77 (R := zE_R sw) (J := J) (o := zE_h b + (9 + 3 * k)) (m := 0) (I := zw_u (zw_u I (zE_h b) 1 (nI (k + 1))) (zE_h b + (9 + 3 * k)) 2 200) (by decide)
  rw [r1] at st
  have it : zw_it (s_X3_readStuff_54 7 2 (zE_h b + (9 + 3 * k)) (zE_R sw) J) 1000000 (1, 0, zw_u (zw_u I (zE_h b) 1 (nI (k + 1))) (zE_h b + (9 + 3 * k)) 2 200) = some I2 := (zE_it1 999999 st).trans zx_54e
  refine ⟨I2, ?_, r2⟩
  rw [it, Option.bind_some, zx_133F r2]
theorem zx_stC {sw b : Bool} {I : zI} {J : zJ} {T : Nat → Nat} {n t : Nat} {σ : zx_S} (hB : zx_B σ) (h4 : σ.1.ns < 4) (h : zx_C b T n I J t σ) (hq : zx_qk T n t σ.2.2.2) (ht : t ≤ 500) (hg : zt_go T n t) : ∃ I2, zx_st (zE_R sw) (zE_h b) I J = some (I2, J) ∧ zx_RC b T n I2 J (match zx_sh T n 5 t 0 (fun _ => 0) (fun _ => 0) σ.2.2.2 with
    | .inr y => .inr y
    | .inl x => match zx_ea T n x.1 x.2.2.2 with
      | .inr y => .inr y
      | .inl z => zx_need (zt_K T n) 5 z.1 (.inl (z.1 + 1, (zx_hs σ.1 x.2.1 x.2.2.1 z.2.1, σ.2.1, σ.2.2.1, z.2.2)))) := by
  unfold zx_st
  rw [zc_addStuff h.2.2.2.2.1 h4, Option.bind_some]
  dsimp only
  obtain ⟨fl, sl, M⟩ := zx_stuffA hB h4 h
  rw [zx_sh0 (f := 4) (fun _ => 0) (fun _ => 0) fl sl]
  obtain ⟨I2, r1, r2⟩ := zx_shC (sw := sw) (H := σ.1) (Q := σ.2.1) (ts := σ.2.2.1) hB h4 5 t 0 1000000 fl sl σ.2.2.2 _ rfl (by decide) (by decide) M hq ht hg
  have r1 : zw_it (s_X3_readStuff_54 7 2 (zE_h b + (9 + 3 * σ.1.ns)) (zE_R sw) J) 1000000 (1, 0, zw_u (zw_u I (zE_h b) 1 (nI (σ.1.ns + 1))) (zE_h b + (9 + 3 * σ.1.ns)) 2 200) = some I2 := r1
  rw [r1, Option.bind_some]
  have so := zx_sh_ok (T := T) (n := n) 5 t 0 fl sl σ.2.2.2 ht hg hq
  cases hS : zx_sh T n 5 t 0 fl sl σ.2.2.2 with
  | inr y =>
    rw [hS] at r2
    exact ⟨I2, zx_133F r2, r2⟩
  | inl x =>
    rw [hS] at r2 so
    obtain ⟨s1, s2, s3, s4, -⟩ := so
    exact zx_eatC (sw := sw) (H := σ.1) (Q := σ.2.1) (ts := σ.2.2.1) hB h4 r2 s4 s2 s3
theorem zx_stuffC {sw b : Bool} {I : zI} {J : zJ} {T : Nat → Nat} {n t : Nat} {σ : zx_S} (hr : zE_R sw 7 2 = zE_h b) (hP : zx_P T n t σ) (h : zx_C b T n I J t σ) : ∃ I2 J2, f_X3_readStuff 7 2 I (zE_R sw) J = some (I2, J2) ∧ zx_RC b T n I2 J2 (zx_stuff T n t σ) := by
  have hb := zE_hb b
  have g7 : zw_gc 7 3 = true := by simp only [zE_gC]
  have gh := (zE_gH b).1
  obtain ⟨p1, p2, p3, p4, p5, p6, p7, p8, p9, p10, -⟩ := id hP
  have hB : zx_B σ := ⟨p3, p4, p5, p6, p7⟩
  have a5 := h.2.2.2.2.1
  have hd : f_X3_readStuff 7 2 I (zE_R sw) J = (f_X3_take 7 2 18 (zr_b (decide (σ.1.ns < 4))) I (zE_R sw)).bind fun q5 => (if ¬ q5.1 = 0 then ((f_X3_takeName 7 2 q5.2 (zE_R sw) J).bind fun q8 => ((f_X3_take 7 2 6 1 q8.1 (zE_R sw)).bind fun q9 => zx_st (zE_R sw) (zE_h b) q9.2 q8.2)) else some (q5.2, J)) := by
    unfold f_X3_readStuff j_X3_readStuff_20 zx_st
    simp only [g7, zw_g_t, hr, gh, a5]
    by_cases c : σ.1.ns < 4
    · rw [if_neg (show ¬ (4 : Int32) ≤ nI σ.1.ns from nI_ge (b := 4) c (by decide)), decide_eq_true c]; rfl
    · rw [if_pos (show (4 : Int32) ≤ nI σ.1.ns from nI_le (a := 4) (by omega) (by omega)), decide_eq_false c]; rfl
  rw [hd]
  unfold zx_stuff
  rcases zx_takeC (sw := sw) (k := 18) (kv := 18) (rv := zr_b (decide (σ.1.ns < 4))) (rm := decide (σ.1.ns < 4)) hB h p1 p2 (by decide) rfl rfl with ⟨hk, t2, t3, I1, t4, t5⟩ | ⟨t2, I1, t4, t5, -⟩
  · have c8 : σ.1.ns < 4 := of_decide_eq_true t2
    rw [t4, Option.bind_some, if_pos hk, if_pos (show σ.1.ns < 4 ∧ t < 500 from ⟨c8, t3⟩)]
    dsimp only
    rw [if_pos zE_10]
    have g1 : zt_go T n (t + 1) := zp_go p2 (by omega) (by omega)
    unfold zx_need
    rcases zx_nameC (sw := sw) hr hB p9 (by omega) (zx_qk_up p10 (show t ≤ t + 1 by omega)) t5 (by omega) g1 with ⟨m1, m2, I2, J2, m3, m4⟩ | ⟨m1, I2, m3, m4, m5⟩
    · have g2 : zt_go T n (t + 2) := zp_go g1 (by omega) (by omega)
      have hB2 : zx_B (σ.1, σ.2.1, (t + 1) :: σ.2.2.1, zx_qn T n σ.2.2.1 σ.2.2.2 (t + 1)) := hB
      rw [m3, Option.bind_some, if_pos (show zt_K T n (t + 1) = 2 ∧ t + 1 < 500 from ⟨m1, m2⟩)]
      dsimp only
      rcases zx_takeC (sw := sw) (k := 6) (kv := 6) (rv := 1) (rm := true) hB2 m4 (by omega) g2 (by decide) rfl rfl with ⟨k1, -, k3, I3, k4, k5⟩ | ⟨k2, I3, k4, k5, k6⟩
      · have k1 : zt_K T n (t + 2) = 6 := k1
        have g3 : zt_go T n (t + 3) := zp_go g2 (by omega) (by omega)
        rw [k4, Option.bind_some, if_pos (show zt_K T n (t + 2) = 6 ∧ t + 2 < 500 from ⟨k1, k3⟩)]
        obtain ⟨I4, r1, r2⟩ := zx_stC (sw := sw) hB2 c8 k5 (zx_qn_k p10 (by omega) (by omega)) (by omega) g3
        exact ⟨I4, J2, r1, r2⟩
      · rw [k4, Option.bind_some, if_neg (show ¬ (zt_K T n (t + 2) = 6 ∧ t + 2 < 500) from fun r => k2 ⟨r.1, rfl, r.2⟩)]
        have e1 : I3 (zE_h b) 1 = nI σ.1.ns := by rw [k6 _ (by omega)]; exact m4.2.2.2.2.1
        obtain ⟨I4, r1, r2⟩ := zx_stF (sw := sw) (J := J2) k5 e1 c8
        exact ⟨I4, J2, r1, r2⟩
    · rw [m3, Option.bind_some, if_neg m1]
      dsimp only
      rw [zp_takeF m4.ne, Option.bind_some]
      have e1 : I2 (zE_h b) 1 = nI σ.1.ns := by rw [m5 _ (by omega)]; exact t5.2.2.2.2.1
      obtain ⟨I4, r1, r2⟩ := zx_stF (sw := sw) (J := J) m4 e1 c8
      exact ⟨I4, J, r1, r2⟩
  · rw [t4, Option.bind_some]
    dsimp only
    rw [if_neg (fun r => r rfl)]
    by_cases hk : zt_K T n t = 18
    · have c : ¬ (σ.1.ns < 4 ∧ t < 500) := fun r => t2 ⟨hk, decide_eq_true r.1, r.2⟩
      rw [if_pos hk] at t5
      rw [if_pos hk, if_neg c]
      exact ⟨I1, J, rfl, t5⟩
    · rw [if_neg hk] at t5
      rw [if_neg hk]
      exact ⟨I1, J, rfl, t5⟩
