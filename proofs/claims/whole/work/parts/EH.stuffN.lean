/-! ===== a STUFF, as the model reads it ===== -/
/-- a round's numbers behind a fault -/
theorem zx_63F {sw b : Bool} {T : Nat → Nat} {n : Nat} {I0 I : zI} {J : zJ} {f e : Nat} {v1 v2 : Int32} (h : zx_MF b T n I0 I f e) : j_X11_tellStuff_63_34 148 v1 v2 I (zE_R sw) J = some (.inr (.inr I)) := by
  unfold j_X11_tellStuff_63_34
  rw [zp_g148.1, zw_g_t, h.number, Option.bind_some]
  dsimp only
  rw [h.number, Option.bind_some]
  dsimp only
  rw [if_neg h.ne.2]
/-- the shares -/
theorem zx_shM {sw b : Bool} {T : Nat → Nat} {n : Nat} {I0 : zI} {J : zJ} {H : zq_H} {Q : zr_Q} {ts : List Nat} (h4 : H.ns < 4) : ∀ (f t m N : Nat) (fl sl : Nat → Nat) (q : Nat × Nat) (I : zI), m + f = 5 → m ≤ 4 → f + 2 ≤ N → zx_M b T n I0 I J t (H, Q, ts, q) → (m = 0 ∨ zx_sm b I H.ns fl sl) → zx_qk T n t q → t ≤ 500 → zt_go T n t → ∃ r, zw_it (s_X11_tellStuff_34 148 (nI (4 * zq_lv b + H.ns)) (zE_R sw) J) N (nI m, 1, I) = some r ∧ match zx_sh T n f t m fl sl q with
    | .inl x => ∃ I2, r = .inl I2 ∧ zx_M b T n I0 I2 J x.1 (H, Q, ts, x.2.2.2) ∧ zx_sm b I2 H.ns x.2.1 x.2.2.1
    | .inr y => ∃ I2, (r = .inl I2 ∨ r = .inr I2) ∧ zx_MF b T n I0 I2 y.1 y.2
  | 0, t, m, N, fl, sl, q, I, hm, hm4, hN, h, hs, hq, ht, hg => by omega
  | f + 1, t, m, N, fl, sl, q, I, hm, hm4, hN, h, hs, hq, ht, hg => by
    obtain ⟨N, rfl⟩ : ∃ N', N = N' + 2 := ⟨N - 2, by omega⟩
    have g8 := zp_g148.1
    have is3 := zx_isM (sw := sw) (kc := 3) (kv := 2) h ht hg (by decide) rfl
    unfold zx_sh
    by_cases c3 : zt_K T n t = 3
    · rw [if_pos c3]
      by_cases c4 : m < 4
      · -- there is room
        have st : s_X11_tellStuff_34 148 (nI (4 * zq_lv b + H.ns)) (zE_R sw) J (nI m, 1, I) = j_X11_tellStuff_63_34 148 (nI (4 * zq_lv b + H.ns)) (nI m) I (zE_R sw) J := by
          unfold s_X11_tellStuff_34
          dsimp only
          rw [if_neg zE_10, g8, zw_g_t, if_neg (fun r => r h.2.1.1), if_pos (show ¬ nI m = (4 : Int32) from zr_ne (b := 4) (by omega) (by omega) (by decide))]
        rcases zx_numberM (sw := sw) hq h ht hg with ⟨-, n2, I1, n3, n4, n5⟩ | ⟨n1, v, I1, n3, n4⟩
        · rw [if_pos (show m < 4 ∧ t < 500 from ⟨c4, n2⟩), zx_need]
          have g1 : zt_go T n (t + 1) := zp_go hg (by omega) (by omega)
          have q1 : zx_qk T n (t + 1) (zx_qs T n q t) := zx_qs_k hq (by omega) (by omega)
          have n4 : zx_M b T n I0 I1 J (t + 1) (H, Q, ts, zx_qs T n q t) := n4
          rcases zx_numberM (sw := sw) q1 n4 (by omega) g1 with ⟨k1, k2, I2, k3, k4, k5⟩ | ⟨k1, v, I2, k3, k4⟩
          · rw [if_pos (show zt_K T n (t + 1) = 3 ∧ t + 1 < 500 from ⟨k1, k2⟩)]
            have g2 : zt_go T n (t + 2) := zp_go g1 (by omega) (by omega)
            have q2 : zx_qk T n (t + 2) (zx_qs T n (zx_qs T n q t) (t + 1)) := zx_qs_k q1 (by omega) (by omega)
            have k4 : zx_M b T n I0 I2 J (t + 2) (H, Q, ts, zx_qs T n (zx_qs T n q t) (t + 1)) := k4
            obtain ⟨I3, r1, r2, r3, r4⟩ := zx_92 (sw := sw) (v2 := nI m) (v4 := nI (zp_V T n t)) (v5 := nI (zp_V T n (t + 1))) (σ := (H, Q, ts, zx_qs T n (zx_qs T n q t) (t + 1))) h4 (4 - m) m 1000000 I2 (by omega) (by omega) k4
            have S3 : zx_sm b I3 H.ns (zx_from fl m (zp_V T n t)) (zx_from sl m (zp_V T n (t + 1))) := by
              intro c hc
              unfold zx_from
              by_cases c5 : m ≤ c
              · rw [if_pos c5, if_pos c5]; exact (r4 c).1 ⟨c5, hc⟩
              · rw [if_neg c5, if_neg c5]
                obtain ⟨y1, y2⟩ := (r4 c).2 (by omega)
                have y1 : I3 159 (4 * (4 * zq_lv b + H.ns) + c) = I2 159 (4 * (4 * zq_lv b + H.ns) + c) := y1
                have y2 : I3 160 (4 * (4 * zq_lv b + H.ns) + c) = I2 160 (4 * (4 * zq_lv b + H.ns) + c) := y2
                rw [y1, y2, k5 159 (by decide), k5 160 (by decide), n5 159 (by decide), n5 160 (by decide)]
                rcases hs with hs | hs
                · omega
                · exact hs c hc
            have is7 := zx_isM (sw := sw) (kc := 7) (kv := 16) r2 (by omega) g2 (by decide) rfl
            have hd : s_X11_tellStuff_34 148 (nI (4 * zq_lv b + H.ns)) (zE_R sw) J (nI m, 1, I) = if zr_b (decide (zt_K T n (t + 2) = 7)) = 0 then some (.inl (nI (m + 1), zr_b (decide (zt_K T n (t + 2) = 7)), I3)) else (f_X11_goesOn 148 I3 (zE_R sw)).bind fun q29 => some (.inl (nI (m + 1), zr_b (decide (zt_K T n (t + 2) = 7)), q29)) := by
              rw [st]
              unfold j_X11_tellStuff_63_34 j_X11_tellStuff_148_34
              rw [g8, zw_g_t, n3, Option.bind_some]
              dsimp only
              rw [k3, Option.bind_some]
              dsimp only
              rw [if_pos (show I2 148 13 ≤ 0 by rw [k4.2.1.1]; decide), r1, Option.bind_some, zw_let_e, is7, Option.bind_some, nI_1]
            by_cases c7 : zt_K T n (t + 2) = 7
            · rw [if_pos c7]
              rw [decide_eq_true c7, if_neg (show ¬ zr_b true = 0 by decide)] at hd
              rcases zx_onM (sw := sw) r2 (by omega) g2 with ⟨c8, I4, o1, o2⟩ | ⟨c8, I4, o1, o2⟩
              · rw [if_pos c8]
                obtain ⟨I4', p1, p2⟩ := zm_T_on (sw := sw) (zx_T0 r2) c8
                have e1 : I4' = I4 := by rw [o1] at p1; cases p1; rfl
                subst e1
                rw [o1, Option.bind_some] at hd
                have S4 : zx_sm b I4' H.ns (zx_from fl m (zp_V T n t)) (zx_from sl m (zp_V T n (t + 1))) := by
                  intro c hc
                  rw [p2.1 159 (by decide), p2.1 160 (by decide)]
                  exact S3 c hc
                obtain ⟨r, s1, s2⟩ := zx_shM (sw := sw) (b := b) (T := T) (n := n) (I0 := I0) (J := J) (H := H) (Q := Q) (ts := ts) h4 f (t + 3) (m + 1) (N + 1) _ _ _ I4' (by omega) (by omega) (by omega) o2 (Or.inr S4) (zx_qk_up q2 (by omega)) (by omega) (zp_go g2 (by omega) (by omega))
                exact ⟨r, (zE_it1 (N + 1) hd).trans s1, s2⟩
              · rw [if_neg c8]
                rw [o1, Option.bind_some] at hd
                refine ⟨.inl I4, ?_, I4, Or.inl rfl, o2⟩
                rw [zE_it1 (N + 1) hd]
                refine zE_it0 N ?_
                unfold s_X11_tellStuff_34
                dsimp only
                rw [if_neg (show ¬ zr_b true = 0 by decide), g8, zw_g_t, if_pos o2.ne.1]
            · rw [if_neg c7]
              rw [decide_eq_false c7, if_pos (show zr_b false = 0 from rfl)] at hd
              refine ⟨.inl I3, ?_, I3, rfl, r2, S3⟩
              rw [zE_it1 (N + 1) hd]
              refine zE_it0 N ?_
              unfold s_X11_tellStuff_34
              dsimp only
              rw [if_pos (show zr_b false = 0 from rfl)]
          · rw [if_neg k1]
            refine ⟨.inr I2, ?_, I2, Or.inr rfl, k4⟩
            refine zE_it0 (N + 1) ?_
            rw [st]
            unfold j_X11_tellStuff_63_34
            rw [g8, zw_g_t, n3, Option.bind_some]
            dsimp only
            rw [k3, Option.bind_some]
            dsimp only
            rw [if_neg k4.ne.2]
        · rw [if_neg (show ¬ (m < 4 ∧ t < 500) from fun r => n1 ⟨c3, r.2⟩)]
          rw [if_pos c3] at n4
          refine ⟨.inr I1, ?_, I1, Or.inr rfl, n4⟩
          refine zE_it0 (N + 1) ?_
          rw [st]
          unfold j_X11_tellStuff_63_34
          rw [g8, zw_g_t, n3, Option.bind_some]
          dsimp only
          rw [n4.number, Option.bind_some]
          dsimp only
          rw [if_neg n4.ne.2]
      · have e4 : m = 4 := by omega
        subst e4
        rw [if_neg (show ¬ (4 < 4 ∧ t < 500) from fun r => c4 r.1)]
        obtain ⟨I1, o1, o2⟩ := zx_failM (sw := sw) (f := 2) (fv := 2) h ht hg (Or.inr rfl) rfl
        refine ⟨.inr I1, ?_, I1, Or.inr rfl, o2⟩
        refine zE_it0 (N + 1) ?_
        unfold s_X11_tellStuff_34
        dsimp only
        rw [if_neg zE_10, g8, zw_g_t, if_neg (fun r => r h.2.1.1), if_neg (show ¬ ¬ nI 4 = (4 : Int32) from fun r => r rfl), is3, Option.bind_some, decide_eq_true c3, if_neg (show ¬ zr_b true = 0 by decide), o1, Option.bind_some, zx_63F o2]
    · rw [if_neg c3]
      rcases zx_numberM (sw := sw) hq h ht hg with ⟨n1, -⟩ | ⟨n1, v, I1, n3, n4⟩
      · exact absurd n1 c3
      · rw [if_neg c3] at n4
        refine ⟨.inr I1, ?_, I1, Or.inr rfl, n4⟩
        refine zE_it0 (N + 1) ?_
        have j63 : j_X11_tellStuff_63_34 148 (nI (4 * zq_lv b + H.ns)) (nI m) I (zE_R sw) J = some (.inr (.inr I1)) := by
          unfold j_X11_tellStuff_63_34
          rw [g8, zw_g_t, n3, Option.bind_some]
          dsimp only
          rw [n4.number, Option.bind_some]
          dsimp only
          rw [if_neg n4.ne.2]
        unfold s_X11_tellStuff_34
        dsimp only
        rw [if_neg zE_10, g8, zw_g_t, if_neg (fun r => r h.2.1.1), is3, Option.bind_some, decide_eq_false c3, if_pos (show zr_b false = 0 from rfl), j63]
        split <;> rfl
theorem zx_186F {sw b : Bool} {T : Nat → Nat} {n : Nat} {I0 I : zI} {J : zJ} {f e : Nat} (h : zx_MF b T n I0 I f e) : j_X11_tellStuff_186 148 I (zE_R sw) J = some (I, J) := by
  unfold j_X11_tellStuff_186
  rw [zp_g148.1, zw_g_t, h.must 4, Option.bind_some, if_pos h.ne.1]
/-- its end -/
theorem zx_186M {sw b : Bool} {T : Nat → Nat} {n : Nat} {I0 I : zI} {J : zJ} {t : Nat} {H : zq_H} {Q : zr_Q} {ts : List Nat} {q : Nat × Nat} {fl sl : Nat → Nat} {ea : Nat} (h : zx_M b T n I0 I J t (H, Q, ts, q)) (hs : zx_sm b I H.ns fl sl) (he : I 161 (4 * zq_lv b + H.ns) = nI ea) (ht : t ≤ 500) (hg : zt_go T n t) : ∃ I2, j_X11_tellStuff_186 148 I (zE_R sw) J = some (I2, J) ∧ zx_RM b T n I0 I2 J (zx_need (zt_K T n) 5 t (.inl (t + 1, (zx_hs H fl sl ea, Q, ts, q)))) := by
  have hlv := zq_lv1 b
  unfold zx_need j_X11_tellStuff_186
  have tk := zm_must (sw := sw) (kc := 5) (kv := 4) h.2.2.1 (zx_T0 h) ht hg (by decide) rfl
  rcases zx_mustM (sw := sw) (kc := 5) (kv := 4) h ht hg (by decide) rfl with ⟨c1, c2, I1, m1, m2⟩ | ⟨c1, I1, m1, m2⟩
  · rw [if_pos (show zt_K T n t = 5 ∧ t < 500 from ⟨c1, c2⟩)]
    obtain ⟨I1', n1, n2⟩ := tk
    have e1 : I1' = I1 := by rw [m1] at n1; cases n1; rfl
    subst e1
    have n2 : zm_T T n I I1' (t + 1) (0, 0) := by
      rcases n2 with n2 | n2
      · exact n2.2.2
      · exact absurd ⟨c1, c2⟩ n2.1
    obtain ⟨a1, ⟨b1, b2, b3, b4, b5, p, b6, b7, b8⟩, a3, a4, a5, ⟨c1, c2, c3, c4, c5⟩, m, l, d1, d2, d3, d4, d5, d6, d7⟩ := m2
    have c1 : I1' 158 (zq_lv b) = nI H.ns := c1
    simp only [zE_gM, zE_rM sw, zE_sM, zw_g_t, zw_let_e, m1, Option.bind_some]
    rw [if_neg (fun r => r b1), b4, zE_in (show zq_lv b < 2 from hlv) (by decide), zE_cl (show zq_lv b < 2 ^ 31 by omega), c1, zw_g_t, zw_g_t, nI_1]
    obtain ⟨I5, e5⟩ : ∃ I5, I5 = zw_u I1' 158 (zq_lv b) (nI (H.ns + 1)) := ⟨_, rfl⟩
    rw [← e5]
    have ff : ∀ a, a ≠ 158 → I5 a = I1' a := fun a ha => by rw [e5, zw_u_off _ _ _ ha]
    have f8 : I5 148 = I1' 148 := ff 148 (by omega)
    have lw := zx_lv16 (b := b) (W := 1) (k := 0) (by decide)
    have F5 : zx_Fm b I0 I5 := by
      rw [e5]
      exact a1.w _ (by decide) (by decide) (by show zq_lv b * 1 ≤ zq_lv b; omega) (by show zq_lv b < (zq_lv b + 1) * 1; omega)
    refine ⟨I5, rfl, F5, ⟨by rw [f8]; exact b1, by rw [f8]; exact b2, by rw [f8]; exact b3, by rw [f8]; exact b4, by rw [f8]; exact b5, p, b6, by rw [f8]; exact b7, b8⟩, zp_Y_tr a3 (ff 151 (by omega)) (ff 152 (by omega)) (ff 153 (by omega)) rfl, zt_TM_tr a4 (by rw [f8]) (ff 150 (by omega)), zx_NM_tr a5 (ff 156 (by omega)), ⟨by rw [e5, zE_u1]; rfl, by rw [ff 162 (by omega)]; exact c2, by rw [ff 163 (by omega)]; exact c3, by rw [ff 167 (by omega)]; exact c4, by rw [ff 168 (by omega)]; exact c5⟩, m, l, by rw [f8]; exact d1, by rw [f8]; exact d2, d3, d4, d5, d6, fun q0 => ?_⟩
    obtain ⟨e1, e2, e3⟩ := d7 q0
    refine ⟨fun k hk => ?_, fun k hk => ⟨(e2 k hk).1, zq_DM_tr (e2 k hk).2 (ff 164 (by omega)) (ff 165 (by omega)) (ff 166 (by omega))⟩, fun k hk => zx_rm_tr (e3 k hk) (fun a x1 x2 => by rw [ff a (by omega)]) (zx_cl_eq (fun a x1 x2 => ff a (by omega))) (Nat.le_refl _) (Nat.le_refl _)⟩
    have hk : k < H.ns + 1 := hk
    show (∀ c, c < 4 → I5 159 (4 * (4 * zq_lv b + k) + c) = nI (zx_up H.fl H.ns fl k c) ∧ I5 160 (4 * (4 * zq_lv b + k) + c) = nI (zx_up H.sl H.ns sl k c)) ∧ I5 161 (4 * zq_lv b + k) = nI (zx_up H.ea H.ns ea k)
    rw [ff 159 (by omega), ff 160 (by omega), ff 161 (by omega)]
    by_cases c : k = H.ns
    · rw [c, zx_up1, zx_up1, zx_up1, n2.1 159 (by decide), n2.1 160 (by decide), n2.1 161 (by decide)]
      exact ⟨hs, he⟩
    · rw [zx_up2 _ _ c, zx_up2 _ _ c, zx_up2 _ _ c]
      exact e1 k (show k < H.ns by omega)
  · rw [if_neg c1, zp_g148.1, zw_g_t, m1, Option.bind_some, if_pos m2.ne.1]
    exact ⟨I1, rfl, m2⟩
theorem zx_w161 {b : Bool} {T : Nat → Nat} {n : Nat} {I0 I : zI} {J : zJ} {t : Nat} {σ : zx_S} (h : zx_M b T n I0 I J t σ) (h4 : σ.1.ns < 4) (v : Int32) : zx_M b T n I0 (zw_u I 161 (4 * zq_lv b + σ.1.ns) v) J t σ := by
  have lw := zx_lv16 (b := b) (W := 4) (k := σ.1.ns) h4
  refine zx_M_fr h (h.1.w v (by decide) (by decide) lw.1 lw.2) (fun a ha => zw_u_off _ _ _ (by omega)) (fun k hk => ⟨fun c hc => ⟨?_, ?_⟩, ?_⟩) (fun k hk ok hd => zq_DM_tr hd (zw_u_off _ _ _ (by decide)) (zw_u_off _ _ _ (by decide)) (zw_u_off _ _ _ (by decide)))
  · rw [zw_u_off _ _ _ (by decide)]
  · rw [zw_u_off _ _ _ (by decide)]
  · rw [zE_u2 _ _ (by omega)]
theorem zx_151F {sw b : Bool} {T : Nat → Nat} {n : Nat} {I0 I : zI} {J : zJ} {k f e : Nat} (h : zx_MF b T n I0 I f e) (hk : k < 4) : ∃ I2, j_X11_tellStuff_151 148 (nI (4 * zq_lv b + k)) I (zE_R sw) J = some (I2, J) ∧ zx_MF b T n I0 I2 f e := by
  have hlv := zq_lv1 b
  have lw := zx_lv16 (b := b) (W := 4) (k := k) hk
  have F := h.w (a := 161) (i := 4 * zq_lv b + k) 200 (by decide) (by decide) lw.1 lw.2
  refine ⟨_, ?_, F⟩
  unfold j_X11_tellStuff_151
  simp only [zE_gM, zE_rM sw, zE_sM, zw_g_t, zw_let_e, zE_in (show 4 * zq_lv b + k < 8 by omega) (by decide), zE_cl (show 4 * zq_lv b + k < 2 ^ 31 by omega), zp_isF F.ne.1, Option.bind_some]
  rw [zx_186F F]
  exact if_pos trivial
/-- what it eats -/
theorem zx_151M {sw b : Bool} {T : Nat → Nat} {n : Nat} {I0 I : zI} {J : zJ} {t : Nat} {H : zq_H} {Q : zr_Q} {ts : List Nat} {q : Nat × Nat} {fl sl : Nat → Nat} (h4 : H.ns < 4) (h : zx_M b T n I0 I J t (H, Q, ts, q)) (hs : zx_sm b I H.ns fl sl) (hq : zx_qk T n t q) (ht : t ≤ 500) (hg : zt_go T n t) : ∃ I2, j_X11_tellStuff_151 148 (nI (4 * zq_lv b + H.ns)) I (zE_R sw) J = some (I2, J) ∧ zx_RM b T n I0 I2 J (match zx_ea T n t q with
    | .inr y => .inr y
    | .inl z => zx_need (zt_K T n) 5 z.1 (.inl (z.1 + 1, (zx_hs H fl sl z.2.1, Q, ts, z.2.2)))) := by
  have hlv := zq_lv1 b
  have M1 : zx_M b T n I0 (zw_u I 161 (4 * zq_lv b + H.ns) 200) J t (H, Q, ts, q) := zx_w161 h h4 200
  obtain ⟨K, eK⟩ : ∃ K, K = zw_u I 161 (4 * zq_lv b + H.ns) 200 := ⟨_, rfl⟩
  rw [← eK] at M1
  have fK : ∀ a, a ≠ 161 → K a = I a := fun a ha => by rw [eK, zw_u_off _ _ _ ha]
  have sK : zx_sm b K H.ns fl sl := fun c hc => by rw [fK 159 (by decide), fK 160 (by decide)]; exact hs c hc
  have is := zx_isM (sw := sw) (kc := 23) (kv := 25) M1 ht hg (by decide) rfl
  have hd : j_X11_tellStuff_151 148 (nI (4 * zq_lv b + H.ns)) I (zE_R sw) J = if zr_b (decide (zt_K T n t = 23)) = 0 then j_X11_tellStuff_186 148 K (zE_R sw) J else (f_X11_goesOn 148 K (zE_R sw)).bind fun q49 => ((f_X11_number 148 1000 q49 (zE_R sw)).bind fun q50 => (j_X11_tellStuff_186 148 (zw_u q50.2 161 (4 * zq_lv b + H.ns) q50.1) (zE_R sw) J)) := by
    unfold j_X11_tellStuff_151
    simp only [zE_gM, zE_rM sw, zE_sM, zw_g_t, zw_let_e, zE_in (show 4 * zq_lv b + H.ns < 8 by omega) (by decide), zE_cl (show 4 * zq_lv b + H.ns < 2 ^ 31 by omega), ← eK, is, Option.bind_some]
  rw [hd]
  unfold zx_ea
  by_cases c : zt_K T n t = 23
  · rw [decide_eq_true c, if_neg (show ¬ zr_b true = 0 by decide), if_pos c]
    rcases zx_onM (sw := sw) M1 ht hg with ⟨c2, I1, o1, o2⟩ | ⟨c2, I1, o1, o2⟩
    · rw [o1, Option.bind_some, if_pos c2, zx_need]
      obtain ⟨I1', p1, p2⟩ := zm_T_on (sw := sw) (zx_T0 M1) c2
      have e1 : I1' = I1 := by rw [o1] at p1; cases p1; rfl
      subst e1
      have g1 : zt_go T n (t + 1) := zp_go hg (by omega) (by omega)
      rcases zx_numberM (sw := sw) (zx_qk_up hq (show t ≤ t + 1 by omega)) o2 (by omega) g1 with ⟨k1, k2, I2, k3, k4, k5⟩ | ⟨k1, v, I2, k3, k4⟩
      · rw [k3, Option.bind_some, if_pos (show zt_K T n (t + 1) = 3 ∧ t + 1 < 500 from ⟨k1, k2⟩)]
        dsimp only
        have M2 : zx_M b T n I0 (zw_u I2 161 (4 * zq_lv b + H.ns) (nI (zp_V T n (t + 1)))) J (t + 2) (H, Q, ts, zx_qs T n q (t + 1)) := zx_w161 k4 h4 _
        refine zx_186M (sw := sw) (fl := fl) (sl := sl) (ea := zp_V T n (t + 1)) M2 (fun c hc => ?_) (zE_u1 _ _ _ _) (by omega) (zp_go g1 (by omega) (by omega))
        rw [zw_u_off _ _ _ (by decide), zw_u_off _ _ _ (by decide), k5 159 (by decide), k5 160 (by decide), p2.1 159 (by decide), p2.1 160 (by decide)]
        exact sK c hc
      · rw [k3, Option.bind_some, if_neg k1]
        dsimp only
        have lw := zx_lv16 (b := b) (W := 4) (k := H.ns) h4
        have F := k4.w (a := 161) (i := 4 * zq_lv b + H.ns) v (by decide) (by decide) lw.1 lw.2
        exact ⟨_, zx_186F F, F⟩
    · rw [o1, Option.bind_some, if_neg c2, o2.number, Option.bind_some]
      dsimp only
      have lw := zx_lv16 (b := b) (W := 4) (k := H.ns) h4
      have F := o2.w (a := 161) (i := 4 * zq_lv b + H.ns) 0 (by decide) (by decide) lw.1 lw.2
      exact ⟨_, zx_186F F, F⟩
  · rw [decide_eq_false c, if_pos (show zr_b false = 0 from rfl), if_neg c]
    exact zx_186M (sw := sw) (fl := fl) (sl := sl) (ea := 200) M1 sK (by rw [eK, zE_u1]; rfl) ht hg
theorem zx_stuffM {sw b : Bool} {T : Nat → Nat} {n : Nat} {I0 I : zI} {J : zJ} {t : Nat} {σ : zx_S} (hP : zx_P T n t σ) (h : zx_M b T n I0 I J t σ) (hk : zt_K T n t = 18) (h4 : σ.1.ns < 4) : ∃ I2 J2, f_X11_tellStuff 148 I (zE_R sw) J = some (I2, J2) ∧ zx_RM b T n I0 I2 J2 (zx_stuff T n t σ) ∧ ∀ a, a ≠ 157 → J2 a = J a := by
  have hlv := zq_lv1 b
  obtain ⟨p1, p2, p3, p4, p5, p6, p7, p8, p9, p10, -⟩ := id hP
  have k19 := h.2.1.2.2.2.1
  have k158 := h.2.2.2.2.2.1.1
  have ev : 4 * nI (zq_lv b) + nI σ.1.ns = nI (4 * zq_lv b + σ.1.ns) := by rw [show (4 : Int32) = nI 4 from rfl, pk_mul, nI_add]
  have hd : f_X11_tellStuff 148 I (zE_R sw) J = (f_X11_goesOn 148 I (zE_R sw)).bind fun q5 => ((f_X11_named 148 q5 (zE_R sw) J).bind fun q6 => ((f_X11_must 148 5 q6.1 (zE_R sw)).bind fun q7 => ((zw_it (s_X11_tellStuff_34 148 (nI (4 * zq_lv b + σ.1.ns)) (zE_R sw) q6.2) 1000000 (0, 1, q7)).bind fun q33 => (match q33 with | .inl a34 => (j_X11_tellStuff_151 148 (nI (4 * zq_lv b + σ.1.ns)) a34 (zE_R sw) q6.2) | .inr a35 => (some (a35, q6.2)))))) := by
    unfold f_X11_tellStuff
    simp only [zE_gM, zE_rM sw, zE_sM, zw_g_t, zw_let_e, k19, zE_in (show zq_lv b < 2 from hlv) (by decide), zE_cl (show zq_lv b < 2 ^ 31 by omega), k158, ev]
    rfl
  rw [hd]
  -- a fault before the shares
  have bad : ∀ (K : zI) (JK : zJ) (f e : Nat), zx_MF b T n I0 K f e → ∃ I2, ((zw_it (s_X11_tellStuff_34 148 (nI (4 * zq_lv b + σ.1.ns)) (zE_R sw) JK) 1000000 (0, 1, K)).bind fun q33 => (match q33 with | .inl a34 => (j_X11_tellStuff_151 148 (nI (4 * zq_lv b + σ.1.ns)) a34 (zE_R sw) JK) | .inr a35 => (some (a35, JK)))) = some (I2, JK) ∧ zx_MF b T n I0 I2 f e := by
    intro K JK f e hF
    have it : zw_it (s_X11_tellStuff_34 148 (nI (4 * zq_lv b + σ.1.ns)) (zE_R sw) JK) 1000000 (0, 1, K) = some (.inl K) := by
      refine zE_it0 999999 ?_
      unfold s_X11_tellStuff_34
      dsimp only
      rw [if_neg zE_10, zp_g148.1, zw_g_t, if_pos hF.ne.1]
    rw [it, Option.bind_some]
    exact zx_151F hF h4
  unfold zx_stuff
  rw [if_pos hk]
  rcases zx_onM (sw := sw) h p1 p2 with ⟨c, I1, q1, q2⟩ | ⟨c, I1, q1, q2⟩
  · rw [q1, Option.bind_some, if_pos (show σ.1.ns < 4 ∧ t < 500 from ⟨h4, c⟩)]
    unfold zx_need
    have g1 : zt_go T n (t + 1) := zp_go p2 (by omega) (by omega)
    rcases zx_namedM (sw := sw) p9 (by omega) (zx_qk_up p10 (show t ≤ t + 1 by omega)) q2 (by omega) g1 with ⟨c1, c2, I2, J2, m1, m2, m3⟩ | ⟨c1, I2, m1, m2⟩
    · rw [m1, Option.bind_some, if_pos (show zt_K T n (t + 1) = 2 ∧ t + 1 < 500 from ⟨c1, c2⟩)]
      dsimp only
      have g2 : zt_go T n (t + 2) := zp_go g1 (by omega) (by omega)
      have m2 : zx_M b T n I0 I2 J2 (t + 2) (σ.1, σ.2.1, (t + 1) :: σ.2.2.1, zx_qn T n σ.2.2.1 σ.2.2.2 (t + 1)) := m2
      rcases zx_mustM (sw := sw) (kc := 6) (kv := 5) m2 (by omega) g2 (by decide) rfl with ⟨e1, e2, I3, e3, e4⟩ | ⟨e1, I3, e3, e4⟩
      · rw [e3, Option.bind_some, if_pos (show zt_K T n (t + 2) = 6 ∧ t + 2 < 500 from ⟨e1, e2⟩)]
        have g3 : zt_go T n (t + 3) := zp_go g2 (by omega) (by omega)
        have hq3 : zx_qk T n (t + 3) (zx_qn T n σ.2.2.1 σ.2.2.2 (t + 1)) := zx_qn_k p10 (by omega) (by omega)
        obtain ⟨r, r1, r2⟩ := zx_shM (sw := sw) (b := b) (T := T) (n := n) (I0 := I0) (J := J2) (H := σ.1) (Q := σ.2.1) (ts := (t + 1) :: σ.2.2.1) h4 5 (t + 3) 0 1000000 (fun _ => 0) (fun _ => 0) (zx_qn T n σ.2.2.1 σ.2.2.2 (t + 1)) I3 rfl (by decide) (by decide) e4 (Or.inl rfl) hq3 (by omega) g3
        have r1 : zw_it (s_X11_tellStuff_34 148 (nI (4 * zq_lv b + σ.1.ns)) (zE_R sw) J2) 1000000 (0, 1, I3) = some r := r1
        rw [r1, Option.bind_some]
        have so := zx_sh_ok (T := T) (n := n) 5 (t + 3) 0 (fun _ => 0) (fun _ => 0) (zx_qn T n σ.2.2.1 σ.2.2.2 (t + 1)) (by omega) g3 hq3
        cases hS : zx_sh T n 5 (t + 3) 0 (fun _ => 0) (fun _ => 0) (zx_qn T n σ.2.2.1 σ.2.2.2 (t + 1)) with
        | inr y =>
          rw [hS] at r2
          obtain ⟨I4, s1, s2⟩ := r2
          rcases s1 with rfl | rfl
          · obtain ⟨I5, v1, v2⟩ := zx_151F (sw := sw) (J := J2) s2 h4
            exact ⟨I5, J2, v1, v2, m3⟩
          · exact ⟨I4, J2, rfl, s2, m3⟩
        | inl x =>
          rw [hS] at r2 so
          obtain ⟨I4, rfl, s2, s3⟩ := r2
          obtain ⟨o1, o2, o3, o4, -⟩ := so
          obtain ⟨I5, v1, v2⟩ := zx_151M (sw := sw) h4 s2 s3 o4 o2 o3
          exact ⟨I5, J2, v1, v2, m3⟩
      · rw [e3, Option.bind_some, if_neg e1]
        obtain ⟨I4, v1, v2⟩ := bad I3 J2 _ _ e4
        exact ⟨I4, J2, v1, v2, m3⟩
    · rw [m1, Option.bind_some, if_neg c1]
      dsimp only
      rw [m2.must 5, Option.bind_some]
      obtain ⟨I4, v1, v2⟩ := bad I2 J _ _ m2
      exact ⟨I4, J, v1, v2, fun _ _ => rfl⟩
  · rw [q1, Option.bind_some, if_neg (show ¬ (σ.1.ns < 4 ∧ t < 500) from fun r => c r.2), q2.named, Option.bind_some]
    dsimp only
    rw [q2.must 5, Option.bind_some]
    obtain ⟨I4, v1, v2⟩ := bad I1 J _ _ q2
    exact ⟨I4, J, v1, v2, fun _ _ => rfl⟩
