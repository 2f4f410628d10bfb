/-! ===== TELLS, and a whole text, as the model reads them ===== -/
theorem zx_hr0' {d : zq_D} {y : Nat} : ∀ x, zq_hr d y x = 0 → ∀ a, a < x → d.c a y = 0
  | 0, _, a, h => absurd h (Nat.not_lt_zero _)
  | x + 1, h, a, ha => by
    have h : zq_hr d y x + zq_wt (d.c x y) = 0 := h
    by_cases e : a = x
    · rw [e]; exact zx_wt0.mp (by omega)
    · exact zx_hr0' x (by omega) a (by omega)
theorem zx_hf0' {d : zq_D} : ∀ y, zq_hf d y = 0 → ∀ a b, a < d.w → b < y → d.c a b = 0
  | 0, _, a, b, _, h => absurd h (Nat.not_lt_zero _)
  | y + 1, h, a, b, ha, hb => by
    have h : zq_hf d y + zq_hr d y d.w = 0 := h
    by_cases e : b = y
    · rw [e]; exact zx_hr0' d.w (by omega) a ha
    · exact zx_hf0' y (by omega) a b ha (by omega)
theorem zx_22F {sw b : Bool} {T : Nat → Nat} {n : Nat} {I0 I : zI} {J : zJ} {k f e : Nat} {v2 : Int32} (h : zx_MF b T n I0 I f e) (hk : k < 10) : ∃ I2, j_X11_tellRows_22 148 (nI (10 * zq_lv b + k)) v2 I (zE_R sw) J = some (I2, J) ∧ zx_MF b T n I0 I2 f e := by
  have hlv := zq_lv1 b
  have lw := zx_lv16 (b := b) (W := 10) (k := k) hk
  have F := h.w (a := 165) (i := 10 * zq_lv b + k) 0 (by decide) (by decide) lw.1 lw.2
  refine ⟨_, ?_, F⟩
  unfold j_X11_tellRows_22
  simp only [zE_gM, zE_rM sw, zE_sM, zw_g_t, zw_let_e, zE_in (show 10 * zq_lv b + k < 20 by omega) (by decide), zE_cl (show 10 * zq_lv b + k < 2 ^ 31 by omega)]
  rw [zx_37e (N := 999999) (zp_isF F.ne.1), Option.bind_some]
  dsimp only
  rw [if_pos F.ne.1, zx_250F F]
theorem zx_22M {sw b : Bool} {T : Nat → Nat} {n : Nat} {I0 I : zI} {J : zJ} {t k : Nat} {H : zq_H} {Q : zr_Q} {ts : List Nat} {q : Nat × Nat} {v2 : Int32} {H2 : zq_D → zq_H} (hk : k < 10) (hn : ¬ H.has k) (hx : ∀ j, j < n → I0 150 j = zx_by (T j)) (h : zx_M b T n I0 I J t (H, Q, ts, q)) (hq : zx_qk T n t q) (ht : t ≤ 500) (hg : zt_go T n t) (hK : zt_K T n t = 4) (hH : ∀ d, (H2 d).ns = H.ns ∧ (H2 d).fl = H.fl ∧ (H2 d).sl = H.sl ∧ (H2 d).ea = H.ea ∧ (H2 d).D k = d ∧ (∀ j, (H2 d).has j → j = k ∨ (H.has j ∧ (H2 d).D j = H.D j)) ∧ ((v2 = 1 ∧ (H2 d).nc = H.nc + 1 ∧ (H2 d).nr = H.nr) ∨ (v2 = 0 ∧ (H2 d).nc = H.nc ∧ (H2 d).nr = H.nr + 1))) : ∃ I2, j_X11_tellRows_22 148 (nI (10 * zq_lv b + k)) v2 I (zE_R sw) J = some (I2, J) ∧ zx_RM b T n I0 I2 J (match zx_rw T n 13 t zx_d0 q with
    | .inr y => .inr y
    | .inl x => zx_need (zt_K T n) 5 x.1 (.inl (x.1 + 1, (H2 x.2.1, Q, ts, zx_q0 T n (x.1 - 1) x.2.1 x.2.2)))) := by
  have hlv := zq_lv1 b
  have M1 := zx_w166 h hk hn (a := 165) (i := 10 * zq_lv b + k) (Or.inr ⟨Or.inr rfl, rfl⟩) 0
  obtain ⟨K, eK⟩ : ∃ K, K = zw_u I 165 (10 * zq_lv b + k) 0 := ⟨_, rfl⟩
  rw [← eK] at M1
  have D0 : zx_dm b K k zx_d0 q false := ⟨fun r => absurd rfl r, by rw [eK, zE_u1]; rfl, fun _ => ⟨fun x y hx1 => absurd hx1 (Nat.not_lt_zero _), ⟨fun r => Bool.noConfusion r, fun ⟨x, y, r, _⟩ => absurd r (Nat.not_lt_zero _)⟩⟩⟩
  obtain ⟨r, r1, r2⟩ := zx_rowsM (sw := sw) (v2 := v2) hk hn hx 13 t 1000000 K zx_d0 q false (nI t) rfl (by decide) M1 D0 (Or.inl rfl) (fun _ _ => Nat.zero_le _) hq ht hg hK
  have r1 : zw_it (s_X11_tellRows_37 148 (nI (10 * zq_lv b + k)) v2 (zE_R sw) J) 1000000 (0, nI t, K) = some r := r1
  have k11 := M1.2.1.2.1
  unfold j_X11_tellRows_22
  simp only [zE_gM, zE_rM sw, zE_sM, zw_g_t, zw_let_e, zE_in (show 10 * zq_lv b + k < 20 by omega) (by decide), zE_cl (show 10 * zq_lv b + k < 2 ^ 31 by omega), ← eK, k11]
  rw [r1, Option.bind_some]
  have ro := zx_rw_ok (T := T) (n := n) 13 t zx_d0 q ht hg hK hq (Or.inl rfl) (fun _ _ => Nat.zero_le _)
  cases hR : zx_rw T n 13 t zx_d0 q with
  | inr y =>
    rw [hR] at r2
    obtain ⟨I2, s1, s2⟩ := r2
    rcases s1 with ⟨s, l, rfl⟩ | rfl
    · dsimp only
      rw [if_pos s2.ne.1, zx_250F s2]
      exact ⟨I2, rfl, s2⟩
    · exact ⟨I2, rfl, s2⟩
  | inl x =>
    rw [hR] at r2 ro
    obtain ⟨I2, s2, rfl, M2, D2⟩ := r2
    obtain ⟨o1, o2, o3, o4, o5, -⟩ := ro
    obtain ⟨z1, z2, z3, z4, z5, z6, z7⟩ := hH x.2.1
    obtain ⟨w1, w2, w3⟩ := D2
    have t1 := o5.t1
    dsimp only
    rw [if_neg (fun r => r M2.2.1.1)]
    cases s2 with
    | true =>
      rw [if_pos (show ¬ zr_b true = 0 by decide)]
      have e0 : zx_q0 T n (x.1 - 1) x.2.1 x.2.2 = x.2.2 := by
        unfold zx_q0
        by_cases c0 : x.2.2.1 = 0
        · obtain ⟨a, b2, y1, y2, y3⟩ := (w3 c0).2.mp rfl
          rw [if_neg (fun r => y3 (zx_hf0' _ r a b2 y1 y2))]
        · split
          · exact if_neg c0
          · rfl
      rw [e0]
      exact zx_250M (sw := sw) (k := k) M2 o2 o3 z1 z2 z3 z4 z7 z6 (fun q0 => by rw [z5]; exact ⟨o5, w1 (by omega), w2, (w3 q0).1⟩)
    | false =>
      rw [if_neg (show ¬ ¬ zr_b false = 0 from fun r => r rfl)]
      have g0 : zt_go T n (x.1 - 1) := fun j hj => o3 j (by omega)
      obtain ⟨I3, u1, u2, u3⟩ := zx_wrongM (sw := sw) (f := 5) (e := x.1 - 1) (fv := 5) (ev := nI (x.1 - 1)) M2 (by omega) g0 o4 (fun c0 => by
        obtain ⟨y1, e, y2, y3⟩ := o4 c0
        have y1 : x.2.2.1 = 3 ∨ x.2.2.1 = 5 := y1
        have y3 : x.2.2.2 = zt_a T n e := y3
        show x.2.2.2 < zt_a T n (x.1 - 1) ∨ (x.2.2.2 = zt_a T n (x.1 - 1) ∧ x.2.2.1 ≤ 5)
        rw [y3]
        by_cases ce : e = x.1 - 1
        · right
          exact ⟨by rw [ce], by omega⟩
        · left
          exact zx_a_lt g0 (by omega)) (Or.inr rfl) rfl rfl
      rw [u1, Option.bind_some]
      have e0 : zx_q0 T n (x.1 - 1) x.2.1 x.2.2 = zx_n x.2.2 5 (zt_a T n (x.1 - 1)) := by
        unfold zx_q0
        by_cases c0 : x.2.2.1 = 0
        · have hz : zq_hf x.2.1 x.2.1.t = 0 := zx_hf0 _ (fun a b2 y1 y2 => by
            apply Classical.byContradiction
            intro y3
            exact Bool.noConfusion ((w3 c0).2.mpr ⟨a, b2, y1, y2, y3⟩))
          rw [if_pos hz]
        · have e1 : zx_n x.2.2 5 (zt_a T n (x.1 - 1)) = x.2.2 := if_neg c0
          rw [e1]
          split <;> rfl
      rw [e0]
      exact zx_250M (sw := sw) (k := k) u2 o2 o3 z1 z2 z3 z4 z7 z6 (fun q0 => absurd q0 (zx_n_0 (by decide)))
theorem zx_drawM {sw b : Bool} {T : Nat → Nat} {n : Nat} {I0 I : zI} {J : zJ} {t k : Nat} {σ : zx_S} {v2 : Int32} {H2 : zq_D → zq_H} (hP : zx_P T n t σ) (h : zx_M b T n I0 I J t σ) (h0 : zt_K T n t ≠ 0 ∧ zt_K T n t ≠ 1) (hl : σ.2.2.1.length < 30) (hk : k < 10) (hn : ¬ σ.1.has k) (hx : ∀ j, j < n → I0 150 j = zx_by (T j)) (hH : ∀ d, (H2 d).ns = σ.1.ns ∧ (H2 d).fl = σ.1.fl ∧ (H2 d).sl = σ.1.sl ∧ (H2 d).ea = σ.1.ea ∧ (H2 d).D k = d ∧ (∀ j, (H2 d).has j → j = k ∨ (σ.1.has j ∧ (H2 d).D j = σ.1.D j)) ∧ ((v2 = 1 ∧ (H2 d).nc = σ.1.nc + 1 ∧ (H2 d).nr = σ.1.nr) ∨ (v2 = 0 ∧ (H2 d).nc = σ.1.nc ∧ (H2 d).nr = σ.1.nr + 1))) : ∃ I2 J2, f_X11_tellRows 148 (nI (10 * zq_lv b + k)) v2 I (zE_R sw) J = some (I2, J2) ∧ zx_RM b T n I0 I2 J2 (if t < 500 then (match zx_draw T n t σ.2.2.1 σ.2.2.2 with
    | .inr y => .inr y
    | .inl x => .inl (x.1, (H2 x.2.1, σ.2.1, (t + 1) :: σ.2.2.1, x.2.2))) else .inr (2, t)) ∧ ∀ a, a ≠ 157 → J2 a = J a := by
  obtain ⟨p1, p2, p3, p4, p5, p6, p7, p8, p9, p10, -⟩ := id hP
  have hd : f_X11_tellRows 148 (nI (10 * zq_lv b + k)) v2 I (zE_R sw) J = (f_X11_goesOn 148 I (zE_R sw)).bind fun q2 => ((f_X11_named 148 q2 (zE_R sw) J).bind fun q3 => ((f_X11_is 148 17 q3.1 (zE_R sw)).bind fun q4 => (if ¬ q4 = 0 then j_X11_tellRows_22 148 (nI (10 * zq_lv b + k)) v2 q3.1 (zE_R sw) q3.2 else (f_X11_fail 148 1 q3.1 (zE_R sw)).bind fun q78 => (j_X11_tellRows_22 148 (nI (10 * zq_lv b + k)) v2 q78 (zE_R sw) q3.2)))) := by
    unfold f_X11_tellRows
    rw [zp_g148.1, zw_g_t]
  rw [hd]
  have bad : ∀ (K : zI) (JK : zJ) (f e : Nat), zx_MF b T n I0 K f e → ∃ I2, ((f_X11_is 148 17 K (zE_R sw)).bind fun q4 => (if ¬ q4 = 0 then j_X11_tellRows_22 148 (nI (10 * zq_lv b + k)) v2 K (zE_R sw) JK else (f_X11_fail 148 1 K (zE_R sw)).bind fun q78 => (j_X11_tellRows_22 148 (nI (10 * zq_lv b + k)) v2 q78 (zE_R sw) JK))) = some (I2, JK) ∧ zx_MF b T n I0 I2 f e := by
    intro K JK f e hF
    rw [zp_isF hF.ne.1, Option.bind_some, if_neg (fun r => r rfl), hF.fail 1, Option.bind_some]
    exact zx_22F hF hk
  rcases zx_onM (sw := sw) h p1 p2 with ⟨c, I1, q1, q2⟩ | ⟨c, I1, q1, q2⟩
  · rw [q1, Option.bind_some, if_pos c]
    unfold zx_draw
    rw [zx_need]
    have g1 : zt_go T n (t + 1) := zp_go p2 h0.1 h0.2
    rcases zx_namedM (sw := sw) p9 hl (zx_qk_up p10 (show t ≤ t + 1 by omega)) q2 (by omega) g1 with ⟨c1, c2, I2, J2, m1, m2, m3⟩ | ⟨c1, I2, m1, m2⟩
    · rw [m1, Option.bind_some, if_pos (show zt_K T n (t + 1) = 2 ∧ t + 1 < 500 from ⟨c1, c2⟩)]
      dsimp only
      have g2 : zt_go T n (t + 2) := zp_go g1 (by omega) (by omega)
      have m2 : zx_M b T n I0 I2 J2 (t + 2) (σ.1, σ.2.1, (t + 1) :: σ.2.2.1, zx_qn T n σ.2.2.1 σ.2.2.2 (t + 1)) := m2
      have is := zx_isM (sw := sw) (kc := 4) (kv := 17) m2 (by omega) g2 (by decide) rfl
      rw [is, Option.bind_some]
      by_cases c4 : zt_K T n (t + 2) = 4
      · rw [decide_eq_true c4, if_pos (show ¬ zr_b true = 0 by decide), if_pos c4]
        obtain ⟨I3, r1, r2⟩ := zx_22M (sw := sw) (v2 := v2) (H2 := H2) hk hn hx m2 (zx_qn_k p10 (by omega) (by omega)) (by omega) g2 c4 hH
        refine ⟨I3, J2, r1, ?_, m3⟩
        cases hR : zx_rw T n 13 (t + 2) zx_d0 (zx_qn T n σ.2.2.1 σ.2.2.2 (t + 1)) with
        | inr y => rw [hR] at r2; exact r2
        | inl x =>
          rw [hR] at r2
          dsimp only at r2 ⊢
          unfold zx_need at r2 ⊢
          by_cases c5 : zt_K T n x.1 = 5 ∧ x.1 < 500
          · rw [if_pos c5] at r2 ⊢; exact r2
          · rw [if_neg c5] at r2 ⊢; exact r2
      · rw [decide_eq_false c4, if_neg (show ¬ ¬ zr_b false = 0 from fun r => r rfl), if_neg c4]
        obtain ⟨I3, o1, o2⟩ := zx_failM (sw := sw) (f := 1) (fv := 1) m2 (by omega) g2 (Or.inl rfl) rfl
        rw [o1, Option.bind_some]
        obtain ⟨I4, r1, r2⟩ := zx_22F (sw := sw) (J := J2) (v2 := v2) o2 hk
        exact ⟨I4, J2, r1, r2, m3⟩
    · rw [m1, Option.bind_some, if_neg c1]
      obtain ⟨I4, r1, r2⟩ := bad I2 J _ _ m2
      exact ⟨I4, J, r1, r2, fun _ _ => rfl⟩
  · rw [q1, Option.bind_some, if_neg c, q2.named, Option.bind_some]
    obtain ⟨I4, r1, r2⟩ := bad I1 J _ _ q2
    exact ⟨I4, J, r1, r2, fun _ _ => rfl⟩
/-- a TELL -/
theorem zx_tellM {sw b : Bool} {T : Nat → Nat} {n : Nat} {I0 I : zI} {J : zJ} {t : Nat} {σ : zx_S} (hP : zx_P T n t σ) (hx : ∀ j, j < n → I0 150 j = zx_by (T j)) (h : zx_M b T n I0 I J t σ) : ∃ I2 J2, f_X11_tell 148 I (zE_R sw) J = some (I2, J2) ∧ zx_RM b T n I0 I2 J2 (zx_tell T n t σ) ∧ ∀ a, a ≠ 157 → J2 a = J a := by
  have hlv := zq_lv1 b
  obtain ⟨p1, p2, p3, p4, p5, p6, p7, p8, p9, p10, -⟩ := id hP
  have kb := zp_K35 h.2.2.1.2.1 t
  obtain ⟨y1, -, -, -⟩ := h.2.2.1.2.2 t p1 p2
  have h11 := h.2.1.2.1
  have h13 := h.2.1.1
  have h19 := h.2.1.2.2.2.1
  obtain ⟨c1, c2, c3, c4, c5⟩ := h.2.2.2.2.2.1
  have ne : ∀ k : Nat, k ≤ 35 → zt_K T n t ≠ k → ¬ nI (zt_mk (zt_K T n t)) = nI (zt_mk k) := fun k hk hn => zr_ne (fun e => hn ((zt_mk_in _ kb _ hk).mp e)) (by have := zt_mk_b _ kb; omega) (by have := zt_mk_b _ hk; omega)
  have i2 : zw_in (nI (zq_lv b)) 2 = true := zE_in hlv (by decide)
  have cl2 : Int32.toNatClampNeg (nI (zq_lv b)) = zq_lv b := zE_cl (by omega)
  have hd : f_X11_tell 148 I (zE_R sw) J = if nI (zt_mk (zt_K T n t)) = 20 then (if ¬ nI σ.1.ns = 4 then j_X11_tell_62 148 I (zE_R sw) J else (f_X11_fail 148 2 I (zE_R sw)).bind fun q12 => (j_X11_tell_62 148 q12 (zE_R sw) J)) else (if nI (zt_mk (zt_K T n t)) = 21 then (if ¬ nI σ.1.nc = 6 then j_X11_tell_95 148 I (zE_R sw) J else (f_X11_fail 148 2 I (zE_R sw)).bind fun q22 => (j_X11_tell_95 148 q22 (zE_R sw) J)) else (if nI (zt_mk (zt_K T n t)) = 22 then (if ¬ nI σ.1.nr = 4 then j_X11_tell_145 148 I (zE_R sw) J else (f_X11_fail 148 2 I (zE_R sw)).bind fun q32 => (j_X11_tell_145 148 q32 (zE_R sw) J)) else (if nI (zt_mk (zt_K T n t)) = 23 then (if ¬ nI σ.2.1.1 = 8 then j_X11_tell_199 148 I (zE_R sw) J else (f_X11_fail 148 2 I (zE_R sw)).bind fun q42 => (j_X11_tell_199 148 q42 (zE_R sw) J)) else (if nI (zt_mk (zt_K T n t)) = 24 then (if ¬ nI σ.2.1.2.1 = 8 then j_X11_tell_250 148 I (zE_R sw) J else (f_X11_fail 148 2 I (zE_R sw)).bind fun q52 => (j_X11_tell_250 148 q52 (zE_R sw) J)) else ((f_X11_fail 148 1 I (zE_R sw)).bind fun q53 => (some (q53, J))))))) := by
    unfold f_X11_tell
    simp only [zE_gM, zE_rM sw, zE_sM, zw_g_t, zw_let_e, h11, zE_in (show t < 503 by omega) (by decide), zE_cl (show t < 2 ^ 31 by omega), y1, h19, i2, cl2, c1, c2, c3, c4, c5]
  rw [hd]
  -- no room
  have full : ∃ I1, f_X11_fail 148 2 I (zE_R sw) = some I1 ∧ zx_MF b T n I0 I1 2 t := zx_failM (sw := sw) (f := 2) (fv := 2) h p1 p2 (Or.inr rfl) rfl
  obtain ⟨IF, g1, g2⟩ := full
  unfold zx_tell
  by_cases k1 : zt_K T n t = 19
  · rw [if_neg (show ¬ nI (zt_mk (zt_K T n t)) = 20 from ne 18 (by decide) (by omega)), if_pos (show nI (zt_mk (zt_K T n t)) = 21 by rw [k1]; rfl), if_pos k1]
    unfold zx_cut
    by_cases r : σ.1.nc < 6
    · rw [if_pos (show ¬ nI σ.1.nc = (6 : Int32) from zr_ne (b := 6) (by omega) (by omega) (by decide))]
      have ev : 10 * nI (zq_lv b) + nI σ.1.nc = nI (10 * zq_lv b + σ.1.nc) := by rw [show (10 : Int32) = nI 10 from rfl, pk_mul, nI_add]
      obtain ⟨I2, J2, r1, r2, r3⟩ := zx_drawM (sw := sw) (v2 := 1) (k := σ.1.nc) (H2 := fun d => zx_hc σ.1 d) hP h (by omega) (by omega) (by omega) (by unfold zq_H.has; omega) hx (fun d => ⟨rfl, rfl, rfl, rfl, zx_up1 _ _ _, fun j hj => by
        have hj : j < σ.1.nc + 1 ∨ (6 ≤ j ∧ j < 6 + σ.1.nr) := hj
        by_cases e : j = σ.1.nc
        · exact Or.inl e
        · exact Or.inr ⟨by unfold zq_H.has; omega, zx_up2 _ _ e⟩, Or.inl ⟨rfl, rfl, rfl⟩⟩)
      refine ⟨I2, J2, ?_, ?_, r3⟩
      · unfold j_X11_tell_95
        simp only [zE_gM, zE_rM sw, zE_sM, zw_g_t, h19, i2, cl2, c2, ev, r1, Option.bind_some]
        rw [if_neg (fun q => q h13)]
      · by_cases c : t < 500
        · rw [if_pos (show σ.1.nc < 6 ∧ t < 500 from ⟨r, c⟩)]
          rw [if_pos c] at r2
          exact r2
        · rw [if_neg (show ¬ (σ.1.nc < 6 ∧ t < 500) from fun q => c q.2)]
          rw [if_neg c] at r2
          exact r2
    · rw [if_neg (show ¬ ¬ nI σ.1.nc = (6 : Int32) from fun q => q (by rw [show σ.1.nc = 6 by omega]; rfl)), if_neg (show ¬ (σ.1.nc < 6 ∧ t < 500) from fun q => r q.1), g1, Option.bind_some]
      unfold j_X11_tell_95
      rw [zp_g148.1, zw_g_t, if_pos g2.ne.1]
      exact ⟨IF, J, rfl, g2, fun _ _ => rfl⟩
  · rw [if_neg k1]
    by_cases k2 : zt_K T n t = 20
    · rw [if_neg (show ¬ nI (zt_mk (zt_K T n t)) = 20 from ne 18 (by decide) (by omega)), if_neg (show ¬ nI (zt_mk (zt_K T n t)) = 21 from ne 19 (by decide) (by omega)), if_pos (show nI (zt_mk (zt_K T n t)) = 22 by rw [k2]; rfl), if_pos k2]
      unfold zx_rough
      by_cases r : σ.1.nr < 4
      · rw [if_pos (show ¬ nI σ.1.nr = (4 : Int32) from zr_ne (b := 4) (by omega) (by omega) (by decide))]
        have ev : 10 * nI (zq_lv b) + 6 + nI σ.1.nr = nI (10 * zq_lv b + (6 + σ.1.nr)) := by rw [show (10 : Int32) = nI 10 from rfl, show (6 : Int32) = nI 6 from rfl, pk_mul, nI_add, nI_add, Nat.add_assoc]
        obtain ⟨I2, J2, r1, r2, r3⟩ := zx_drawM (sw := sw) (v2 := 0) (k := 6 + σ.1.nr) (H2 := fun d => zx_hr σ.1 d) hP h (by omega) (by omega) (by omega) (by unfold zq_H.has; omega) hx (fun d => ⟨rfl, rfl, rfl, rfl, zx_up1 _ _ _, fun j hj => by
          have hj : j < σ.1.nc ∨ (6 ≤ j ∧ j < 6 + (σ.1.nr + 1)) := hj
          by_cases e : j = 6 + σ.1.nr
          · exact Or.inl e
          · exact Or.inr ⟨by unfold zq_H.has; omega, zx_up2 _ _ e⟩, Or.inr ⟨rfl, rfl, rfl⟩⟩)
        refine ⟨I2, J2, ?_, ?_, r3⟩
        · unfold j_X11_tell_145
          simp only [zE_gM, zE_rM sw, zE_sM, zw_g_t, h19, i2, cl2, c3, ev, r1, Option.bind_some]
          rw [if_neg (fun q => q h13)]
        · by_cases c : t < 500
          · rw [if_pos (show σ.1.nr < 4 ∧ t < 500 from ⟨r, c⟩)]
            rw [if_pos c] at r2
            exact r2
          · rw [if_neg (show ¬ (σ.1.nr < 4 ∧ t < 500) from fun q => c q.2)]
            rw [if_neg c] at r2
            exact r2
      · rw [if_neg (show ¬ ¬ nI σ.1.nr = (4 : Int32) from fun q => q (by rw [show σ.1.nr = 4 by omega]; rfl)), if_neg (show ¬ (σ.1.nr < 4 ∧ t < 500) from fun q => r q.1), g1, Option.bind_some]
        unfold j_X11_tell_145
        rw [zp_g148.1, zw_g_t, if_pos g2.ne.1]
        exact ⟨IF, J, rfl, g2, fun _ _ => rfl⟩
    · rw [if_neg k2]
      by_cases k3 : zt_K T n t = 21
      · rw [if_neg (show ¬ nI (zt_mk (zt_K T n t)) = 20 from ne 18 (by decide) (by omega)), if_neg (show ¬ nI (zt_mk (zt_K T n t)) = 21 from ne 19 (by decide) (by omega)), if_neg (show ¬ nI (zt_mk (zt_K T n t)) = 22 from ne 20 (by decide) (by omega)), if_pos (show nI (zt_mk (zt_K T n t)) = 23 by rw [k3]; rfl), if_pos k3]
        by_cases r : σ.2.1.1 < 8
        · rw [if_pos (show ¬ nI σ.2.1.1 = (8 : Int32) from zr_ne (b := 8) (by omega) (by omega) (by decide))]
          have ev : 16 * nI (zq_lv b) + nI σ.2.1.1 = nI (16 * zq_lv b + σ.2.1.1) := by rw [show (16 : Int32) = nI 16 from rfl, pk_mul, nI_add]
          obtain ⟨I2, J2, r1, r2, r3⟩ := zx_gradeM (sw := sw) hP h k3 r
          refine ⟨I2, J2, ?_, r2, r3⟩
          unfold j_X11_tell_199
          simp only [zE_gM, zE_rM sw, zE_sM, zw_g_t, h19, i2, cl2, c4, ev, r1, Option.bind_some]
          rw [if_neg (fun q => q h13)]
        · rw [if_neg (show ¬ ¬ nI σ.2.1.1 = (8 : Int32) from fun q => q (by rw [show σ.2.1.1 = 8 by omega]; rfl)), g1, Option.bind_some]
          unfold zx_grade j_X11_tell_199
          rw [if_neg (show ¬ (σ.2.1.1 < 8 ∧ t < 500) from fun q => r q.1), zp_g148.1, zw_g_t, if_pos g2.ne.1]
          exact ⟨IF, J, rfl, g2, fun _ _ => rfl⟩
      · rw [if_neg k3]
        by_cases k4 : zt_K T n t = 22
        · rw [if_neg (show ¬ nI (zt_mk (zt_K T n t)) = 20 from ne 18 (by decide) (by omega)), if_neg (show ¬ nI (zt_mk (zt_K T n t)) = 21 from ne 19 (by decide) (by omega)), if_neg (show ¬ nI (zt_mk (zt_K T n t)) = 22 from ne 20 (by decide) (by omega)), if_neg (show ¬ nI (zt_mk (zt_K T n t)) = 23 from ne 21 (by decide) (by omega)), if_pos (show nI (zt_mk (zt_K T n t)) = 24 by rw [k4]; rfl), if_pos k4]
          by_cases r : σ.2.1.2.1 < 8
          · rw [if_pos (show ¬ nI σ.2.1.2.1 = (8 : Int32) from zr_ne (b := 8) (by omega) (by omega) (by decide))]
            have ev : 16 * nI (zq_lv b) + 8 + nI σ.2.1.2.1 = nI (16 * zq_lv b + (8 + σ.2.1.2.1)) := by rw [show (16 : Int32) = nI 16 from rfl, show (8 : Int32) = nI 8 from rfl, pk_mul, nI_add, nI_add, Nat.add_assoc]
            obtain ⟨I2, J2, r1, r2, r3⟩ := zx_priceM (sw := sw) hP h k4 r
            refine ⟨I2, J2, ?_, r2, r3⟩
            unfold j_X11_tell_250
            simp only [zE_gM, zE_rM sw, zE_sM, zw_g_t, h19, i2, cl2, c5, ev, r1, Option.bind_some]
            rw [if_neg (fun q => q h13)]
          · rw [if_neg (show ¬ ¬ nI σ.2.1.2.1 = (8 : Int32) from fun q => q (by rw [show σ.2.1.2.1 = 8 by omega]; rfl)), g1, Option.bind_some]
            unfold zx_price j_X11_tell_250
            rw [if_neg (show ¬ (σ.2.1.2.1 < 8 ∧ t < 500) from fun q => r q.1), zp_g148.1, zw_g_t, if_pos g2.ne.1]
            exact ⟨IF, J, rfl, g2, fun _ _ => rfl⟩
        · rw [if_neg k4]
          by_cases k5 : zt_K T n t = 18
          · rw [if_pos (show nI (zt_mk (zt_K T n t)) = 20 by rw [k5]; rfl)]
            by_cases r : σ.1.ns < 4
            · rw [if_pos (show ¬ nI σ.1.ns = (4 : Int32) from zr_ne (b := 4) (by omega) (by omega) (by decide))]
              obtain ⟨I2, J2, r1, r2, r3⟩ := zx_stuffM (sw := sw) hP h k5 r
              refine ⟨I2, J2, ?_, r2, r3⟩
              unfold j_X11_tell_62
              rw [zp_g148.1, zw_g_t, if_neg (fun q => q h13), r1, Option.bind_some]
            · rw [if_neg (show ¬ ¬ nI σ.1.ns = (4 : Int32) from fun q => q (by rw [show σ.1.ns = 4 by omega]; rfl)), g1, Option.bind_some]
              unfold zx_stuff j_X11_tell_62
              rw [if_pos k5, if_neg (show ¬ (σ.1.ns < 4 ∧ t < 500) from fun q => r q.1), zp_g148.1, zw_g_t, if_pos g2.ne.1]
              exact ⟨IF, J, rfl, g2, fun _ _ => rfl⟩
          · rw [if_neg (show ¬ nI (zt_mk (zt_K T n t)) = 20 from ne 18 (by decide) k5), if_neg (show ¬ nI (zt_mk (zt_K T n t)) = 21 from ne 19 (by decide) (by omega)), if_neg (show ¬ nI (zt_mk (zt_K T n t)) = 22 from ne 20 (by decide) (by omega)), if_neg (show ¬ nI (zt_mk (zt_K T n t)) = 23 from ne 21 (by decide) (by omega)), if_neg (show ¬ nI (zt_mk (zt_K T n t)) = 24 from ne 22 (by decide) (by omega))]
            obtain ⟨I1, o1, o2⟩ := zx_failM (sw := sw) (f := 1) (fv := 1) h p1 p2 (Or.inl rfl) rfl
            unfold zx_stuff
            rw [o1, Option.bind_some, if_neg k5]
            exact ⟨I1, J, rfl, o2, fun _ _ => rfl⟩
theorem zx_textM {sw b : Bool} {T : Nat → Nat} {n : Nat} {I0 : zI} (hx : ∀ j, j < n → I0 150 j = zx_by (T j)) : ∀ (f t N : Nat) (I : zI) (J : zJ) (σ : zx_S), zx_P T n t σ → zx_M b T n I0 I J t σ → 501 - t ≤ f → f + 2 ≤ N → ∃ I2 J2, zw_it (s_X11_read_159 148 (zE_R sw)) N (I, J) = some (I2, J2) ∧ zx_RM b T n I0 I2 J2 (zx_text T n f t σ) ∧ ∀ a, a ≠ 157 → J2 a = J a
  | 0, t, N, I, J, σ, hP, h, hf, hN => by have := hP.1; omega
  | f + 1, t, N, I, J, σ, hP, h, hf, hN => by
    obtain ⟨N, rfl⟩ : ∃ N', N = N' + 2 := ⟨N - 2, by omega⟩
    have ht := hP.1
    have hg := hP.2.1
    have g8 := zp_g148.1
    have is := zx_isM (sw := sw) (kc := 0) (kv := 0) h ht hg (by decide) rfl
    unfold zx_text
    by_cases c : zt_K T n t = 0
    · rw [if_pos c]
      refine ⟨I, J, zE_it0 (N + 1) ?_, h, fun _ _ => rfl⟩
      unfold s_X11_read_159
      dsimp only
      rw [g8, zw_g_t, if_neg (fun q => q h.2.1.1), is, Option.bind_some, decide_eq_true c, if_pos (show ¬ zr_b true = 0 by decide)]
    · rw [if_neg c]
      obtain ⟨I1, J1, r1, r2, r3⟩ := zx_tellM (sw := sw) hP hx h
      have ok := zx_tell_ok hP
      have st : s_X11_read_159 148 (zE_R sw) (I, J) = some (.inl (I1, J1)) := by
        unfold s_X11_read_159
        dsimp only
        rw [g8, zw_g_t, if_neg (fun q => q h.2.1.1), is, Option.bind_some, decide_eq_false c, if_neg (show ¬ ¬ zr_b false = 0 from fun q => q rfl), r1, Option.bind_some]
      rw [zE_it1 (N + 1) st]
      cases hT : zx_tell T n t σ with
      | inr y =>
        rw [hT] at r2
        have r2 : zx_MF b T n I0 I1 y.1 y.2 := r2
        refine ⟨I1, J1, zE_it0 N ?_, r2, r3⟩
        unfold s_X11_read_159
        dsimp only
        rw [g8, zw_g_t, if_pos r2.ne.1]
      | inl x =>
        rw [hT] at r2 ok
        have r2 : zx_M b T n I0 I1 J1 x.1 x.2 := r2
        obtain ⟨o1, o2⟩ := ok
        obtain ⟨I2, J2, s1, s2, s3⟩ := zx_textM (sw := sw) hx f x.1 (N + 1) I1 J1 x.2 o2 r2 (by omega) (by omega)
        exact ⟨I2, J2, s1, s2, fun a ha => (s3 a ha).trans (r3 a ha)⟩
