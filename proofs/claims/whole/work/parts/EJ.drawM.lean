/-! ===== a CUT, a ROUGH, as the model reads them ===== -/
theorem zx_37e {sw : Bool} {J : zJ} {I : zI} {N : Nat} {v1 v2 s l : Int32} (h : f_X11_is 148 17 I (zE_R sw) = some 0) : zw_it (s_X11_tellRows_37 148 v1 v2 (zE_R sw) J) (N + 1) (s, l, I) = some (.inl (s, l, I)) := by
  refine zE_it0 N ?_
  unfold s_X11_tellRows_37
  dsimp only
  rw [zp_g148.1, zw_g_t, h, Option.bind_some, if_pos rfl]
theorem zx_rowsM {sw b : Bool} {T : Nat → Nat} {n : Nat} {I0 : zI} {J : zJ} {k : Nat} {H : zq_H} {Q : zr_Q} {ts : List Nat} {v2 : Int32} (hk : k < 10) (hn : ¬ H.has k) (hx : ∀ j, j < n → I0 150 j = zx_by (T j)) : ∀ (f t N : Nat) (I : zI) (d : zq_D) (q : Nat × Nat) (s : Bool) (l : Int32), d.t + f = 13 → f + 2 ≤ N → zx_M b T n I0 I J t (H, Q, ts, q) → zx_dm b I k d q s → (d.t = 0 ∨ zq_ok d) → (∀ x y, d.c x y ≤ 6) → zx_qk T n t q → t ≤ 500 → zt_go T n t → zt_K T n t = 4 → ∃ r, zw_it (s_X11_tellRows_37 148 (nI (10 * zq_lv b + k)) v2 (zE_R sw) J) N (zr_b s, l, I) = some r ∧ match zx_rw T n f t d q with
    | .inl x => ∃ I2 s2, r = .inl (zr_b s2, nI (x.1 - 1), I2) ∧ zx_M b T n I0 I2 J x.1 (H, Q, ts, x.2.2) ∧ zx_dm b I2 k x.2.1 x.2.2 s2
    | .inr y => ∃ I2, ((∃ s2 l2, r = .inl (s2, l2, I2)) ∨ r = .inr I2) ∧ zx_MF b T n I0 I2 y.1 y.2
  | 0, t, N, I, d, q, s, l, hf, hN, h, hdm, hd2, h6, hq, ht, hg, hK => by
    rcases hd2 with r | r
    · omega
    · have := r.t2; omega
  | f + 1, t, N, I, d, q, s, l, hf, hN, h, hdm, hd2, h6, hq, ht, hg, hK => by
    obtain ⟨N, rfl⟩ : ∃ N', N = N' + 2 := ⟨N - 2, by omega⟩
    have hlv := zq_lv1 b
    have g8 := zp_g148.1
    obtain ⟨-, -, v1, v12, -⟩ := zx_K4 hK
    obtain ⟨m1, m2, m3⟩ := hdm
    have is := zx_isM (sw := sw) (kc := 4) (kv := 17) h ht hg (by decide) rfl
    have h11 := h.2.1.2.1
    obtain ⟨-, -, y3, -⟩ := h.2.2.1.2.2 t ht hg
    have y3 : I 153 t = nI (zp_V T n t) := y3
    unfold zx_rw
    by_cases c12 : d.t < 12
    · -- the row
      have ok := zx_row_ok (n := n) hK c12 hd2 h6
      have w12 : d.t = 0 ∨ d.w ≤ 12 := by
        rcases hd2 with r | r
        · exact Or.inl r
        · exact Or.inr r.w2
      -- j_118 behind what may be noted
      obtain ⟨K, eK⟩ : ∃ K, K = (if d.t = 0 then zw_u I 164 (10 * zq_lv b + k) (nI (zp_V T n t)) else I) := ⟨_, rfl⟩
      have MK : zx_M b T n I0 K J t (H, Q, ts, q) := by
        rw [eK]
        split
        · exact zx_w166 h hk hn (Or.inr ⟨Or.inl rfl, rfl⟩) _
        · exact h
      have fK : ∀ a, a ≠ 164 → K a = I a := by
        intro a ha
        rw [eK]
        split
        · exact zw_u_off _ _ _ ha
        · rfl
      have K164 : K 164 (10 * zq_lv b + k) = nI (if d.t = 0 then zp_V T n t else d.w) := by
        rw [eK]
        by_cases c0 : d.t = 0
        · rw [if_pos c0, if_pos c0, zE_u1]
        · rw [if_neg c0, if_neg c0]; exact m1 c0
      have st : s_X11_tellRows_37 148 (nI (10 * zq_lv b + k)) v2 (zE_R sw) J (zr_b s, l, I) = j_X11_tellRows_98_37 148 (nI (10 * zq_lv b + k)) v2 (zr_b s) (nI (zp_V T n t)) K (zE_R sw) J := by
        unfold s_X11_tellRows_37 j_X11_tellRows_62_37
        simp only [zE_gM, zE_rM sw, zE_sM, zw_g_t, zw_let_e, is, Option.bind_some, zE_in (show 10 * zq_lv b + k < 20 by omega) (by decide), zE_cl (show 10 * zq_lv b + k < 2 ^ 31 by omega), m2, h11, zE_in (show t < 503 by omega) (by decide), zE_cl (show t < 2 ^ 31 by omega), y3]
        rw [decide_eq_true hK, if_neg (show ¬ zr_b true = 0 by decide), if_pos (show ¬ nI d.t = (12 : Int32) from zr_ne (b := 12) (by omega) (by omega) (by decide)), if_pos (show I 148 13 ≤ 0 by rw [h.2.1.1]; decide)]
        by_cases c0 : d.t = 0
        · rw [if_neg (show ¬ ¬ nI d.t = 0 from fun r => r (by rw [c0]; rfl)), eK, if_pos c0]
        · rw [if_pos (show ¬ nI d.t = 0 from zr_ne (b := 0) c0 (by omega) (by decide)), eK, if_neg c0]
      have j98 : ∃ I1, (∀ a, a ≠ 148 → I1 a = K a) ∧ zx_M b T n I0 I1 J t (H, Q, ts, zx_qr T n t d q) ∧ j_X11_tellRows_98_37 148 (nI (10 * zq_lv b + k)) v2 (zr_b s) (nI (zp_V T n t)) K (zE_R sw) J = j_X11_tellRows_118_37 148 (nI (10 * zq_lv b + k)) v2 (zr_b s) (nI (zp_V T n t)) I1 (zE_R sw) J := by
        have k11 := MK.2.1.2.1
        have hd98 : j_X11_tellRows_98_37 148 (nI (10 * zq_lv b + k)) v2 (zr_b s) (nI (zp_V T n t)) K (zE_R sw) J = if nI (zp_V T n t) = nI (if d.t = 0 then zp_V T n t else d.w) then j_X11_tellRows_118_37 148 (nI (10 * zq_lv b + k)) v2 (zr_b s) (nI (zp_V T n t)) K (zE_R sw) J else (f_X11_wrong 148 5 (nI t) K (zE_R sw)).bind fun q55 => (j_X11_tellRows_118_37 148 (nI (10 * zq_lv b + k)) v2 (zr_b s) (nI (zp_V T n t)) q55 (zE_R sw) J) := by
          unfold j_X11_tellRows_98_37
          simp only [zE_gM, zE_rM sw, zE_sM, zw_g_t, zE_in (show 10 * zq_lv b + k < 20 by omega) (by decide), zE_cl (show 10 * zq_lv b + k < 2 ^ 31 by omega), K164, k11]
        unfold zx_qr
        by_cases c0 : d.t = 0
        · rw [if_pos (Or.inl c0), hd98, if_pos c0, if_pos rfl]
          exact ⟨K, fun _ _ => rfl, MK, rfl⟩
        · have w2 : d.w ≤ 12 := by
            rcases w12 with r | r
            · contradiction
            · exact r
          by_cases c1 : zp_V T n t = d.w
          · rw [if_pos (Or.inr c1), hd98, if_neg c0, if_pos (by rw [c1])]
            exact ⟨K, fun _ _ => rfl, MK, rfl⟩
          · rw [if_neg (show ¬ (d.t = 0 ∨ zp_V T n t = d.w) from fun r => by rcases r with r | r; exact c0 r; exact c1 r), hd98, if_neg c0, if_neg (show ¬ nI (zp_V T n t) = nI d.w from zr_ne c1 (by omega) (by omega))]
            obtain ⟨I1, x1, x2, x3⟩ := zx_wrongM (sw := sw) (f := 5) (e := t) (fv := 5) (ev := nI t) MK ht hg hq (fun c0 => by
              obtain ⟨-, e, e1, e2⟩ := hq c0
              left
              have := zx_a_lt hg e1
              show q.2 < zt_a T n t
              omega) (Or.inr rfl) rfl rfl
            exact ⟨I1, x3, x2, by rw [x1, Option.bind_some]⟩
      obtain ⟨I1, f1, M1, j98⟩ := j98
      obtain ⟨I2, s2, r1, r2⟩ := zx_118 (sw := sw) (q := q) (q2 := zx_qr T n t d q) (d := d) (s := s) (v2 := v2) hk hn hK ht hg hx c12 w12 M1 (by rw [f1 164 (by decide)]; exact K164) (by rw [f1 165 (by decide), fK 165 (by decide)]; exact m2) (fun q0 => by
        obtain ⟨z1, z2⟩ := zx_qr_0 q0
        rw [z1] at q0
        exact ⟨q0, z2⟩) (fun q0 => by
        rw [f1 166 (by decide), fK 166 (by decide)]
        exact m3 q0)
      rw [j98, r1] at st
      rcases r2 with ⟨c5, r2, r3⟩ | ⟨c5, r2⟩
      · rw [if_pos (show d.t < 12 ∧ t < 500 from ⟨c12, c5⟩)]
        have g1 : zt_go T n (t + 1) := zp_go hg (by omega) (by omega)
        by_cases c4 : zt_K T n (t + 1) = 4
        · rw [if_pos c4]
          obtain ⟨r, u1, u2⟩ := zx_rowsM (sw := sw) (v2 := v2) hk hn hx f (t + 1) (N + 1) I2 (zx_row T n t d) (zx_qr T n t d q) s2 (nI t) (by show d.t + 1 + f = 13; omega) (by omega) r2 r3 (Or.inr ok) ok.c6 (zx_qr_k hq (by omega) (by omega)) (by omega) g1 c4
          exact ⟨r, (zE_it1 (N + 1) st).trans u1, u2⟩
        · rw [if_neg c4]
          have is2 := zx_isM (sw := sw) (kc := 4) (kv := 17) r2 (by omega) g1 (by decide) rfl
          rw [decide_eq_false c4] at is2
          exact ⟨_, (zE_it1 (N + 1) st).trans (zx_37e is2), I2, s2, rfl, r2, r3⟩
      · rw [if_neg (show ¬ (d.t < 12 ∧ t < 500) from fun r => c5 r.2)]
        exact ⟨_, (zE_it1 (N + 1) st).trans (zx_37e (zp_isF r2.ne.1)), I2, Or.inl ⟨_, _, rfl⟩, r2⟩
    · rw [if_neg (show ¬ (d.t < 12 ∧ t < 500) from fun r => c12 r.1)]
      have e12 : d.t = 12 := by omega
      obtain ⟨I1, o1, o2⟩ := zx_failM (sw := sw) (f := 2) (fv := 2) h ht hg (Or.inr rfl) rfl
      refine ⟨.inr I1, ?_, I1, Or.inr rfl, o2⟩
      refine zE_it0 (N + 1) ?_
      unfold s_X11_tellRows_37
      simp only [zE_gM, zE_rM sw, zE_sM, zw_g_t, is, Option.bind_some, zE_in (show 10 * zq_lv b + k < 20 by omega) (by decide), zE_cl (show 10 * zq_lv b + k < 2 ^ 31 by omega), m2]
      rw [decide_eq_true hK, if_neg (show ¬ zr_b true = 0 by decide), if_neg (show ¬ ¬ nI d.t = (12 : Int32) from fun r => r (by rw [e12]; rfl)), o1, Option.bind_some]
      unfold j_X11_tellRows_62_37
      rw [g8, zw_g_t, if_neg o2.ne.2]
theorem zx_250F {sw b : Bool} {T : Nat → Nat} {n : Nat} {I0 I : zI} {J : zJ} {f e : Nat} {v2 : Int32} (h : zx_MF b T n I0 I f e) : j_X11_tellRows_250 148 v2 I (zE_R sw) J = some (I, J) := by
  unfold j_X11_tellRows_250
  rw [zp_g148.1, zw_g_t, h.must 4, Option.bind_some, if_neg h.ne.2]
/-- its end -/
theorem zx_250M {sw b : Bool} {T : Nat → Nat} {n : Nat} {I0 I : zI} {J : zJ} {t k : Nat} {H H2 : zq_H} {Q : zr_Q} {ts : List Nat} {q : Nat × Nat} {v2 : Int32} (h : zx_M b T n I0 I J t (H, Q, ts, q)) (ht : t ≤ 500) (hg : zt_go T n t) (e1 : H2.ns = H.ns) (e2 : H2.fl = H.fl) (e3 : H2.sl = H.sl) (e4 : H2.ea = H.ea) (hv : (v2 = 1 ∧ H2.nc = H.nc + 1 ∧ H2.nr = H.nr) ∨ (v2 = 0 ∧ H2.nc = H.nc ∧ H2.nr = H.nr + 1)) (hD : ∀ j, H2.has j → j = k ∨ (H.has j ∧ H2.D j = H.D j)) (hX : q.1 = 0 → zq_ok (H2.D k) ∧ zq_DM I (10 * zq_lv b + k) (H2.D k)) : ∃ I2, j_X11_tellRows_250 148 v2 I (zE_R sw) J = some (I2, J) ∧ zx_RM b T n I0 I2 J (zx_need (zt_K T n) 5 t (.inl (t + 1, (H2, Q, ts, q)))) := by
  have hlv := zq_lv1 b
  unfold zx_need j_X11_tellRows_250
  have tk := zm_must (sw := sw) (kc := 5) (kv := 4) h.2.2.1 (zx_T0 h) ht hg (by decide) rfl
  rcases zx_mustM (sw := sw) (kc := 5) (kv := 4) h ht hg (by decide) rfl with ⟨c1, c2, I1, m1, m2⟩ | ⟨c1, I1, m1, m2⟩
  · rw [if_pos (show zt_K T n t = 5 ∧ t < 500 from ⟨c1, c2⟩)]
    obtain ⟨I1', n1, n2⟩ := tk
    have ee : I1' = I1 := by rw [m1] at n1; cases n1; rfl
    subst ee
    have n2 : zm_T T n I I1' (t + 1) (0, 0) := by
      rcases n2 with n2 | n2
      · exact n2.2.2
      · exact absurd ⟨c1, c2⟩ n2.1
    have fin : ∀ (c : Nat) (I5 : zI), (c = 162 ∨ c = 163) → I5 = zw_u I1' c (zq_lv b) (nI (if c = 162 then H.nc + 1 else H.nr + 1)) → H2.nc = (if c = 162 then H.nc + 1 else H.nc) → H2.nr = (if c = 162 then H.nr else H.nr + 1) → zx_M b T n I0 I5 J (t + 1) (H2, Q, ts, q) := by
      intro c I5 hc e5 z1 z2
      obtain ⟨a1, ⟨b1, b2, b3, b4, b5, p, b6, b7, b8⟩, a3, a4, a5, ⟨c1, c2, c3, c4, c5⟩, m, l, d1, d2, d3, d4, d5, d6, d7⟩ := m2
      have c1 : I1' 158 (zq_lv b) = nI H.ns := c1
      have c2 : I1' 162 (zq_lv b) = nI H.nc := c2
      have c3 : I1' 163 (zq_lv b) = nI H.nr := c3
      have ff : ∀ a, a ≠ c → I5 a = I1' a := fun a ha => by rw [e5, zw_u_off _ _ _ ha]
      have f8 : I5 148 = I1' 148 := ff 148 (by omega)
      have w : zx_W c = 1 := by rcases hc with rfl | rfl <;> rfl
      have F5 : zx_Fm b I0 I5 := by
        rw [e5]
        exact a1.w _ (by omega) (by omega) (by rw [w]; omega) (by rw [w]; omega)
      refine ⟨F5, ⟨by rw [f8]; exact b1, by rw [f8]; exact b2, by rw [f8]; exact b3, by rw [f8]; exact b4, by rw [f8]; exact b5, p, b6, by rw [f8]; exact b7, b8⟩, zp_Y_tr a3 (ff 151 (by omega)) (ff 152 (by omega)) (ff 153 (by omega)) rfl, zt_TM_tr a4 (by rw [f8]) (ff 150 (by omega)), zx_NM_tr a5 (ff 156 (by omega)), ⟨?_, ?_, ?_, by rw [ff 167 (by omega)]; exact c4, by rw [ff 168 (by omega)]; exact c5⟩, m, l, by rw [f8]; exact d1, by rw [f8]; exact d2, d3, d4, d5, d6, fun q0 => ?_⟩
      · show I5 158 (zq_lv b) = nI H2.ns
        rw [ff 158 (by omega), e1]; exact c1
      · show I5 162 (zq_lv b) = nI H2.nc
        rcases hc with rfl | rfl
        · rw [z1, if_pos rfl, e5, zE_u1, if_pos rfl]
        · rw [z1, if_neg (by decide), ff 162 (by decide)]; exact c2
      · show I5 163 (zq_lv b) = nI H2.nr
        rcases hc with rfl | rfl
        · rw [z2, if_pos rfl, ff 163 (by decide)]; exact c3
        · rw [z2, if_neg (by decide), e5, zE_u1, if_neg (by decide)]
      · obtain ⟨x1, x2, x3⟩ := d7 q0
        refine ⟨fun j hj => ?_, fun j hj => ?_, fun j hj => zx_rm_tr (x3 j hj) (fun a y1 y2 => by rw [ff a (by omega)]) (zx_cl_eq (fun a y1 y2 => ff a (by omega))) (Nat.le_refl _) (Nat.le_refl _)⟩
        · have hj : j < H2.ns := hj
          rw [e1] at hj
          show (∀ c, c < 4 → I5 159 (4 * (4 * zq_lv b + j) + c) = nI (H2.fl j c) ∧ I5 160 (4 * (4 * zq_lv b + j) + c) = nI (H2.sl j c)) ∧ I5 161 (4 * zq_lv b + j) = nI (H2.ea j)
          rw [e2, e3, e4, ff 159 (by omega), ff 160 (by omega), ff 161 (by omega)]
          exact x1 j hj
        · show zq_ok (H2.D j) ∧ zq_DM I5 (10 * zq_lv b + j) (H2.D j)
          rcases hD j hj with e | ⟨y1, y2⟩
          · rw [e]
            obtain ⟨y1, y2⟩ := hX q0
            exact ⟨y1, zq_DM_tr y2 (by rw [ff 164 (by omega), n2.1 164 (by decide)]) (by rw [ff 165 (by omega), n2.1 165 (by decide)]) (by rw [ff 166 (by omega), n2.1 166 (by decide)])⟩
          · rw [y2]
            exact ⟨(x2 j y1).1, zq_DM_tr (x2 j y1).2 (ff 164 (by omega)) (ff 165 (by omega)) (ff 166 (by omega))⟩
    have k19 := m2.2.1.2.2.2.1
    have k162 : I1' 162 (zq_lv b) = nI H.nc := m2.2.2.2.2.2.1.2.1
    have k163 : I1' 163 (zq_lv b) = nI H.nr := m2.2.2.2.2.2.1.2.2.1
    simp only [zE_gM, zE_rM sw, zE_sM, zw_g_t, zw_let_e, m1, Option.bind_some]
    rw [if_pos (show I1' 148 13 ≤ 0 by rw [m2.2.1.1]; decide), k19, zE_in (show zq_lv b < 2 from hlv) (by decide), zE_cl (show zq_lv b < 2 ^ 31 by omega), k162, k163]
    simp only [zw_g_t, nI_1]
    rcases hv with ⟨rfl, z1, z2⟩ | ⟨rfl, z1, z2⟩
    · rw [if_neg zE_10]
      exact ⟨_, rfl, fin 162 _ (Or.inl rfl) rfl (by rw [z1, if_pos rfl]) (by rw [z2, if_pos rfl])⟩
    · rw [if_pos rfl]
      exact ⟨_, rfl, fin 163 _ (Or.inr rfl) rfl (by rw [z1, if_neg (by decide)]) (by rw [z2, if_neg (by decide)])⟩
  · rw [if_neg c1, zp_g148.1, zw_g_t, m1, Option.bind_some, if_neg m2.ne.2]
    exact ⟨I1, rfl, m2⟩
