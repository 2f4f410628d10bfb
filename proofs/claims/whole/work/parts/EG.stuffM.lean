/-! ===== GRADE and PRICE in the model; numbers ===== -/
theorem zx_tru {sw b : Bool} {I : zI} {J : zJ} {k : Nat} {v2 : Int32} (hk : k < 16) : f_X11_tellRule 148 (nI (16 * zq_lv b + k)) v2 I (zE_R sw) J = (f_X11_goesOn 148 I (zE_R sw)).bind fun q2 => ((f_X11_named 148 q2 (zE_R sw) J).bind fun q3 => zx_ru (zE_R sw) (16 * zq_lv b + k) v2 q3.1 q3.2) := by
  have hlv := zq_lv1 b
  unfold f_X11_tellRule zx_ru
  simp only [zE_gM, zE_rM sw, zE_sM, zw_g_t, zE_in (show 16 * zq_lv b + k < 32 by omega) (by decide), zE_cl (show 16 * zq_lv b + k < 2 ^ 31 by omega)]
theorem zx_gradeM {sw b : Bool} {T : Nat → Nat} {n : Nat} {I0 I : zI} {J : zJ} {t : Nat} {σ : zx_S} (hP : zx_P T n t σ) (h : zx_M b T n I0 I J t σ) (hk : zt_K T n t = 21) (h8 : σ.2.1.1 < 8) : ∃ I2 J2, f_X11_tellRule 148 (nI (16 * zq_lv b + σ.2.1.1)) 0 I (zE_R sw) J = some (I2, J2) ∧ zx_RM b T n I0 I2 J2 (zx_grade T n t σ) ∧ ∀ a, a ≠ 157 → J2 a = J a := by
  obtain ⟨p1, p2, p3, p4, p5, p6, p7, p8, p9, p10, -⟩ := id hP
  rw [zx_tru (by omega)]
  unfold zx_grade
  rcases zx_onM (sw := sw) h p1 p2 with ⟨c, I1, q1, q2⟩ | ⟨c, I1, q1, q2⟩
  · rw [q1, Option.bind_some, if_pos (show σ.2.1.1 < 8 ∧ t < 500 from ⟨h8, c⟩), zx_need]
    have g1 : zt_go T n (t + 1) := zp_go p2 (by omega) (by omega)
    rcases zx_namedM (sw := sw) p9 (by omega) (zx_qk_up p10 (show t ≤ t + 1 by omega)) q2 (by omega) g1 with ⟨c1, c2, I2, J2, m1, m2, m3⟩ | ⟨c1, I2, m1, m2⟩
    · rw [m1, Option.bind_some, if_pos (show zt_K T n (t + 1) = 2 ∧ t + 1 < 500 from ⟨c1, c2⟩)]
      obtain ⟨I3, r1, r2⟩ := zx_ruM0 (sw := sw) m2 h8 (by omega) (by omega) (zp_go g1 (by omega) (by omega))
      exact ⟨I3, J2, r1, r2, m3⟩
    · rw [m1, Option.bind_some, if_neg c1]
      obtain ⟨I3, r1, r2⟩ := zx_ruF (sw := sw) (J := J) (v2 := 0) m2 (show σ.2.1.1 < 16 by omega)
      exact ⟨I3, J, r1, r2, fun _ _ => rfl⟩
  · rw [q1, Option.bind_some, if_neg (show ¬ (σ.2.1.1 < 8 ∧ t < 500) from fun r => c r.2), q2.named, Option.bind_some]
    obtain ⟨I3, r1, r2⟩ := zx_ruF (sw := sw) (J := J) (v2 := 0) q2 (show σ.2.1.1 < 16 by omega)
    exact ⟨I3, J, r1, r2, fun _ _ => rfl⟩
theorem zx_priceM {sw b : Bool} {T : Nat → Nat} {n : Nat} {I0 I : zI} {J : zJ} {t : Nat} {σ : zx_S} (hP : zx_P T n t σ) (h : zx_M b T n I0 I J t σ) (hk : zt_K T n t = 22) (h8 : σ.2.1.2.1 < 8) : ∃ I2 J2, f_X11_tellRule 148 (nI (16 * zq_lv b + (8 + σ.2.1.2.1))) 1 I (zE_R sw) J = some (I2, J2) ∧ zx_RM b T n I0 I2 J2 (zx_price T n t σ) ∧ ∀ a, a ≠ 157 → J2 a = J a := by
  obtain ⟨p1, p2, p3, p4, p5, p6, p7, p8, p9, p10, -⟩ := id hP
  rw [zx_tru (by omega)]
  unfold zx_price
  rcases zx_onM (sw := sw) h p1 p2 with ⟨c, I1, q1, q2⟩ | ⟨c, I1, q1, q2⟩
  · rw [q1, Option.bind_some, if_pos (show σ.2.1.2.1 < 8 ∧ t < 500 from ⟨h8, c⟩), zx_need]
    have g1 : zt_go T n (t + 1) := zp_go p2 (by omega) (by omega)
    rcases zx_namedM (sw := sw) p9 (by omega) (zx_qk_up p10 (show t ≤ t + 1 by omega)) q2 (by omega) g1 with ⟨c1, c2, I2, J2, m1, m2, m3⟩ | ⟨c1, I2, m1, m2⟩
    · rw [m1, Option.bind_some, if_pos (show zt_K T n (t + 1) = 2 ∧ t + 1 < 500 from ⟨c1, c2⟩)]
      obtain ⟨I3, r1, r2⟩ := zx_ruM1 (sw := sw) m2 h8 p6 (by omega) (by omega) (zp_go g1 (by omega) (by omega))
      exact ⟨I3, J2, r1, r2, m3⟩
    · rw [m1, Option.bind_some, if_neg c1]
      obtain ⟨I3, r1, r2⟩ := zx_ruF (sw := sw) (J := J) (v2 := 1) m2 (show 8 + σ.2.1.2.1 < 16 by omega)
      exact ⟨I3, J, r1, r2, fun _ _ => rfl⟩
  · rw [q1, Option.bind_some, if_neg (show ¬ (σ.2.1.2.1 < 8 ∧ t < 500) from fun r => c r.2), q2.named, Option.bind_some]
    obtain ⟨I3, r1, r2⟩ := zx_ruF (sw := sw) (J := J) (v2 := 1) q2 (show 8 + σ.2.1.2.1 < 16 by omega)
    exact ⟨I3, J, r1, r2, fun _ _ => rfl⟩
/-- a number -/
theorem zx_MF.number {sw b : Bool} {T : Nat → Nat} {n : Nat} {I0 I : zI} {f e : Nat} (h : zx_MF b T n I0 I f e) : f_X11_number 148 1000 I (zE_R sw) = some (0, I) := by
  unfold f_X11_number j_X11_number_26
  rw [zp_g148.1, zw_g_t, zw_let_e, zp_isF h.ne.1, Option.bind_some, if_pos rfl, zw_g_t, h.must 2, Option.bind_some, if_pos h.ne.1]
theorem zx_numberM {sw b : Bool} {T : Nat → Nat} {n : Nat} {I0 I : zI} {J : zJ} {t : Nat} {σ : zx_S} (hq : zx_qk T n t σ.2.2.2) (h : zx_M b T n I0 I J t σ) (ht : t ≤ 500) (hg : zt_go T n t) : (zt_K T n t = 3 ∧ t < 500 ∧ ∃ I2, f_X11_number 148 1000 I (zE_R sw) = some (nI (zp_V T n t), I2) ∧ zx_M b T n I0 I2 J (t + 1) (σ.1, σ.2.1, σ.2.2.1, zx_qs T n σ.2.2.2 t) ∧ ∀ a, a ≠ 148 → I2 a = I a) ∨ (¬ (zt_K T n t = 3 ∧ t < 500) ∧ ∃ v I2, f_X11_number 148 1000 I (zE_R sw) = some (v, I2) ∧ zx_MF b T n I0 I2 (if zt_K T n t = 3 then 2 else 1) t) := by
  obtain ⟨-, -, y3, -⟩ := h.2.2.1.2.2 t ht hg
  have y3 : I 153 t = nI (zp_V T n t) := y3
  have h11 := h.2.1.2.1
  have is := zx_isM (sw := sw) (kc := 3) (kv := 2) h ht hg (by decide) rfl
  have tk := zm_must (sw := sw) (kc := 3) (kv := 2) h.2.2.1 (zx_T0 h) ht hg (by decide) rfl
  have hd : f_X11_number 148 1000 I (zE_R sw) = (f_X11_must 148 2 I (zE_R sw)).bind fun q6 => (if ¬ (q6 148 13) = 0 then some (if zt_K T n t = 3 then nI (zp_V T n t) else 0, q6) else if (if zt_K T n t = 3 then nI (zp_V T n t) else 0) ≤ 1000 then some (if zt_K T n t = 3 then nI (zp_V T n t) else 0, q6) else (f_X11_wrong 148 5 (nI t) q6 (zE_R sw)).bind fun q9 => (some (if zt_K T n t = 3 then nI (zp_V T n t) else 0, q9))) := by
    unfold f_X11_number j_X11_number_26
    simp only [zE_gM, zE_rM sw, zE_sM, zw_g_t, zw_let_e, is, Option.bind_some, h11, zE_in (show t < 503 by omega) (by decide), zE_cl (show t < 2 ^ 31 by omega), y3]
    by_cases c : zt_K T n t = 3
    · rw [decide_eq_true c, if_neg (show ¬ zr_b true = 0 by decide)]
      simp only [if_pos c]
    · rw [decide_eq_false c, if_pos (show zr_b false = 0 from rfl)]
      simp only [if_neg c]
  rw [hd]
  rcases zx_mustM (sw := sw) (kc := 3) (kv := 2) h ht hg (by decide) rfl with ⟨c1, c2, I1, m1, m2⟩ | ⟨c1, I1, m1, m2⟩
  · refine Or.inl ⟨c1, c2, ?_⟩
    obtain ⟨I1', n1, n2⟩ := tk
    have e1 : I1' = I1 := by rw [m1] at n1; cases n1; rfl
    subst e1
    have n2 : zm_T T n I I1' (t + 1) (0, 0) := by
      rcases n2 with n2 | n2
      · exact n2.2.2
      · exact absurd ⟨c1, c2⟩ n2.1
    have vb := zx_V_b h.2.2.1.2.1 c1
    rw [m1, Option.bind_some, if_neg (fun r => r m2.2.1.1)]
    simp only [if_pos c1]
    unfold zx_qs
    by_cases c : 1000 < zp_V T n t
    · rw [if_neg (show ¬ nI (zp_V T n t) ≤ (1000 : Int32) from nI_ge (a := 1000) c (by omega)), if_pos c]
      obtain ⟨I2, w1, w2, w3⟩ := zx_wrongM (sw := sw) (f := 5) (e := t) (fv := 5) (ev := nI t) m2 ht hg (zx_qk_up hq (by omega)) (fun c0 => by
        obtain ⟨-, e, e1, e2⟩ := hq c0
        left
        rw [e2]
        exact zx_a_lt hg e1) (Or.inr rfl) rfl rfl
      exact ⟨I2, by rw [w1, Option.bind_some], w2, fun a ha => (w3 a ha).trans (n2.1 a ha)⟩
    · rw [if_pos (show nI (zp_V T n t) ≤ (1000 : Int32) from nI_le (b := 1000) (by omega) (by decide)), if_neg c]
      exact ⟨I1', rfl, m2, n2.1⟩
  · refine Or.inr ⟨c1, (if zt_K T n t = 3 then nI (zp_V T n t) else 0), I1, ?_, m2⟩
    rw [m1, Option.bind_some, if_pos m2.ne.1]
/-! ===== a STUFF in the model ===== -/
/-- stuffs and drawings that aren't told yet are written -/
theorem zx_M_fr {b : Bool} {T : Nat → Nat} {n : Nat} {I0 I I2 : zI} {J : zJ} {t : Nat} {σ : zx_S} (h : zx_M b T n I0 I J t σ) (F : zx_Fm b I0 I2) (f : ∀ a, ¬ (159 ≤ a ∧ a ≤ 166 ∧ a ≠ 162 ∧ a ≠ 163) → I2 a = I a) (hs : ∀ k, k < σ.1.ns → (∀ c, c < 4 → I2 159 (4 * (4 * zq_lv b + k) + c) = I 159 (4 * (4 * zq_lv b + k) + c) ∧ I2 160 (4 * (4 * zq_lv b + k) + c) = I 160 (4 * (4 * zq_lv b + k) + c)) ∧ I2 161 (4 * zq_lv b + k) = I 161 (4 * zq_lv b + k)) (hd : ∀ k, σ.1.has k → zq_ok (σ.1.D k) → zq_DM I (10 * zq_lv b + k) (σ.1.D k) → zq_DM I2 (10 * zq_lv b + k) (σ.1.D k)) : zx_M b T n I0 I2 J t σ := by
  obtain ⟨a1, ⟨b1, b2, b3, b4, b5, p, b6, b7, b8⟩, a3, a4, a5, ⟨c1, c2, c3, c4, c5⟩, m, l, d1, d2, d3, d4, d5, d6, d7⟩ := h
  have f8 : I2 148 = I 148 := f 148 (by omega)
  refine ⟨F, ⟨by rw [f8]; exact b1, by rw [f8]; exact b2, by rw [f8]; exact b3, by rw [f8]; exact b4, by rw [f8]; exact b5, p, b6, by rw [f8]; exact b7, b8⟩, zp_Y_tr a3 (f 151 (by omega)) (f 152 (by omega)) (f 153 (by omega)) rfl, zt_TM_tr a4 (by rw [f8]) (f 150 (by omega)), zx_NM_tr a5 (f 156 (by omega)), ⟨by rw [f 158 (by omega)]; exact c1, by rw [f 162 (by omega)]; exact c2, by rw [f 163 (by omega)]; exact c3, by rw [f 167 (by omega)]; exact c4, by rw [f 168 (by omega)]; exact c5⟩, m, l, by rw [f8]; exact d1, by rw [f8]; exact d2, d3, d4, d5, d6, fun q => ?_⟩
  obtain ⟨e1, e2, e3⟩ := d7 q
  refine ⟨fun k hk => ⟨fun c hc => ?_, ?_⟩, fun k hk => ⟨(e2 k hk).1, hd k hk (e2 k hk).1 (e2 k hk).2⟩, fun k hk => zx_rm_tr (e3 k hk) (fun a x1 x2 => by rw [f a (by omega)]) (zx_cl_eq (fun a x1 x2 => f a (by omega))) (Nat.le_refl _) (Nat.le_refl _)⟩
  · rw [((hs k hk).1 c hc).1, ((hs k hk).1 c hc).2]; exact (e1 k hk).1 c hc
  · rw [(hs k hk).2]; exact (e1 k hk).2
/-- the shares of a stuff, in the model -/
def zx_sm (b : Bool) (I : zI) (k : Nat) (fl sl : Nat → Nat) : Prop := ∀ c, c < 4 → I 159 (4 * (4 * zq_lv b + k) + c) = nI (fl c) ∧ I 160 (4 * (4 * zq_lv b + k) + c) = nI (sl c)
theorem zx_92 {sw b : Bool} {T : Nat → Nat} {n : Nat} {I0 : zI} {J : zJ} {t : Nat} {σ : zx_S} {v2 v4 v5 : Int32} (h4 : σ.1.ns < 4) : ∀ (d m N : Nat) (I : zI), m + d = 4 → d + 1 ≤ N → zx_M b T n I0 I J t σ → ∃ I2, zw_it (s_X11_tellStuff_92 148 (nI (4 * zq_lv b + σ.1.ns)) v2 v4 v5 (zE_R sw) J) N (nI m, I) = some I2 ∧ zx_M b T n I0 I2 J t σ ∧ (∀ a, a ≠ 159 → a ≠ 160 → I2 a = I a) ∧ ∀ c, (m ≤ c ∧ c < 4 → I2 159 (4 * (4 * zq_lv b + σ.1.ns) + c) = v4 ∧ I2 160 (4 * (4 * zq_lv b + σ.1.ns) + c) = v5) ∧ (c < m → I2 159 (4 * (4 * zq_lv b + σ.1.ns) + c) = I 159 (4 * (4 * zq_lv b + σ.1.ns) + c) ∧ I2 160 (4 * (4 * zq_lv b + σ.1.ns) + c) = I 160 (4 * (4 * zq_lv b + σ.1.ns) + c))
  | d, m, 0, I, _, hN, _ => absurd hN (by omega)
  | 0, m, N + 1, I, hm, hN, h => by
    refine ⟨I, zE_it0 N ?_, h, fun _ _ _ => rfl, fun c => ⟨fun q => by omega, fun _ => ⟨rfl, rfl⟩⟩⟩
    unfold s_X11_tellStuff_92
    rw [if_pos (show (4 : Int32) ≤ nI m from nI_le (a := 4) (by omega) (by omega))]
  | d + 1, m, N + 1, I, hm, hN, h => by
    have hlv := zq_lv1 b
    obtain ⟨i, ei⟩ : ∃ i, i = 4 * (4 * zq_lv b + σ.1.ns) + m := ⟨_, rfl⟩
    have ix : 4 * nI (4 * zq_lv b + σ.1.ns) + nI m = nI i := by rw [show (4 : Int32) = nI 4 from rfl, pk_mul, nI_add, ei]
    have st : s_X11_tellStuff_92 148 (nI (4 * zq_lv b + σ.1.ns)) v2 v4 v5 (zE_R sw) J (nI m, I) = some (.inl (nI (m + 1), zw_u (zw_u I 159 i v4) 160 i v5)) := by
      unfold s_X11_tellStuff_92
      rw [if_neg (show ¬ (4 : Int32) ≤ nI m from nI_ge (b := 4) (by omega) (by decide))]
      simp only [zE_gM, zE_rM sw, zE_sM, zw_g_t, zw_let_e, ix, zE_in (show i < 32 by omega) (by decide), zE_cl (show i < 2 ^ 31 by omega), nI_1]
    have lw := zx_lv16 (b := b) (W := 16) (k := 4 * σ.1.ns + m) (by omega)
    have ei2 : i = 16 * zq_lv b + (4 * σ.1.ns + m) := by omega
    have F : zx_Fm b I0 (zw_u (zw_u I 159 i v4) 160 i v5) := (h.1.w (a := 159) v4 (by decide) (by decide) (by rw [ei2]; exact lw.1) (by rw [ei2]; exact lw.2)).w (a := 160) v5 (by decide) (by decide) (by rw [ei2]; exact lw.1) (by rw [ei2]; exact lw.2)
    have M : zx_M b T n I0 (zw_u (zw_u I 159 i v4) 160 i v5) J t σ := by
      refine zx_M_fr h F (fun a ha => by rw [zw_u_off _ _ _ (by omega), zw_u_off _ _ _ (by omega)]) (fun k hk => ⟨fun c hc => ⟨?_, ?_⟩, ?_⟩) (fun k hk ok hd => zq_DM_tr hd (by rw [zw_u_off _ _ _ (by decide), zw_u_off _ _ _ (by decide)]) (by rw [zw_u_off _ _ _ (by decide), zw_u_off _ _ _ (by decide)]) (by rw [zw_u_off _ _ _ (by decide), zw_u_off _ _ _ (by decide)]))
      · rw [zw_u_off _ _ _ (by decide), zE_u2 _ _ (by omega)]
      · rw [zE_u2 _ _ (by omega), zw_u_off _ _ _ (by decide)]
      · rw [zw_u_off _ _ _ (by decide), zw_u_off _ _ _ (by decide)]
    obtain ⟨I2, r1, r2, r3, r4⟩ := zx_92 (sw := sw) (v2 := v2) (v4 := v4) (v5 := v5) h4 d (m + 1) N _ (by omega) (by omega) M
    refine ⟨I2, (zE_it1 N st).trans r1, r2, fun a x1 x2 => by rw [r3 a x1 x2, zw_u_off _ _ _ x2, zw_u_off _ _ _ x1], fun c => ⟨fun q => ?_, fun q => ?_⟩⟩
    · by_cases e : c = m
      · subst e
        obtain ⟨y1, y2⟩ := (r4 c).2 (by omega)
        rw [y1, y2, ← ei, zw_u_off _ _ _ (by decide), zE_u1, zE_u1]
        exact ⟨rfl, rfl⟩
      · exact (r4 c).1 ⟨by omega, q.2⟩
    · obtain ⟨y1, y2⟩ := (r4 c).2 (by omega)
      rw [y1, y2, zw_u_off _ _ _ (by decide), zE_u2 _ _ (by omega), zE_u2 _ _ (by omega), zw_u_off _ _ _ (by decide)]
      exact ⟨rfl, rfl⟩
