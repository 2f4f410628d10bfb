/-! ===== a literal, as the model reads it ===== -/
/-- a literal is noted as the l-th -/
def zm_W (I : zI) (l : Nat) (v4 v2 v1 v3 x e : Int32) : zI := zw_u (zw_u (zw_u (zw_u (zw_u (zw_u (zw_u I 173 l v4) 174 l v2) 175 l v1) 176 l v3) 177 l x) 178 l e) 148 37 (nI (l + 1))
theorem zm_W_o {I : zI} {l : Nat} {v4 v2 v1 v3 x e : Int32} (a i : Nat) (h1 : ¬ (a = 148 ∧ i = 37)) (h2 : ¬ (173 ≤ a ∧ a ≤ 178 ∧ i = l)) : zm_W I l v4 v2 v1 v3 x e a i = I a i := by
  unfold zm_W
  rw [zE_u2 _ _ (by omega), zE_u2 _ _ (by omega), zE_u2 _ _ (by omega), zE_u2 _ _ (by omega), zE_u2 _ _ (by omega), zE_u2 _ _ (by omega), zE_u2 _ _ (by omega)]
theorem zm_W_37 {I : zI} {l : Nat} {v4 v2 v1 v3 x e : Int32} : zm_W I l v4 v2 v1 v3 x e 148 37 = nI (l + 1) := zE_u1 _ _ _ _
theorem zm_W_l {I : zI} {l : Nat} {v4 v2 v1 v3 x e : Int32} : zm_W I l v4 v2 v1 v3 x e 173 l = v4 ∧ zm_W I l v4 v2 v1 v3 x e 174 l = v2 ∧ zm_W I l v4 v2 v1 v3 x e 175 l = v1 ∧ zm_W I l v4 v2 v1 v3 x e 176 l = v3 ∧ zm_W I l v4 v2 v1 v3 x e 177 l = x ∧ zm_W I l v4 v2 v1 v3 x e 178 l = e := by
  unfold zm_W
  refine ⟨?_, ?_, ?_, ?_, ?_, ?_⟩
  · rw [zE_u2 _ _ (by omega), zE_u2 _ _ (by omega), zE_u2 _ _ (by omega), zE_u2 _ _ (by omega), zE_u2 _ _ (by omega), zE_u2 _ _ (by omega), zE_u1]
  · rw [zE_u2 _ _ (by omega), zE_u2 _ _ (by omega), zE_u2 _ _ (by omega), zE_u2 _ _ (by omega), zE_u2 _ _ (by omega), zE_u1]
  · rw [zE_u2 _ _ (by omega), zE_u2 _ _ (by omega), zE_u2 _ _ (by omega), zE_u2 _ _ (by omega), zE_u1]
  · rw [zE_u2 _ _ (by omega), zE_u2 _ _ (by omega), zE_u2 _ _ (by omega), zE_u1]
  · rw [zE_u2 _ _ (by omega), zE_u2 _ _ (by omega), zE_u1]
  · rw [zE_u2 _ _ (by omega), zE_u1]
theorem zm_W_Fr {I : zI} {l m : Nat} {v4 v2 v1 v3 x e : Int32} (hv : l < zm_v I) : zm_Fr I (zm_W I l v4 v2 v1 v3 x e) m l := ⟨fun a b1 b2 => by funext i; exact zm_W_o a i (by omega) (by omega), fun y b1 b2 b3 b4 b5 b6 b7 => zm_W_o 148 y (by omega) (by omega), fun i _ => ⟨zm_W_o 179 i (by omega) (by omega), zm_W_o 180 i (by omega) (by omega)⟩, fun a i b1 b2 hi => zm_W_o a i (by omega) (by omega)⟩
theorem zm_lit85 {sw : Bool} {I I1 I2 : zI} {l : Nat} {v1 v2 v3 v4 e : Int32} (p1 : f_X11_goesOn 148 I (zE_R sw) = some I1) (q1 : f_X11_expression 148 I1 (zE_R sw) = some I2) (h13 : I2 148 13 = 0) (h37 : I2 148 37 = nI l) (hl : l < 400) (h44 : I2 148 44 = e) (hv1 : zw_b v1 = true) (hv2 : zw_b v2 = true) : j_X11_literal_85 148 v1 v2 v3 v4 I (zE_R sw) = some (zm_W I2 l v4 v2 v1 v3 (I1 148 44) e) := by
  have e3 : ∀ (X : zI) k v, zw_u X 173 k v 148 = X 148 := fun X k v => zw_u_off _ _ _ (by decide)
  have e4 : ∀ (X : zI) k v, zw_u X 174 k v 148 = X 148 := fun X k v => zw_u_off _ _ _ (by decide)
  have e5 : ∀ (X : zI) k v, zw_u X 175 k v 148 = X 148 := fun X k v => zw_u_off _ _ _ (by decide)
  have e6 : ∀ (X : zI) k v, zw_u X 176 k v 148 = X 148 := fun X k v => zw_u_off _ _ _ (by decide)
  have e7 : ∀ (X : zI) k v, zw_u X 177 k v 148 = X 148 := fun X k v => zw_u_off _ _ _ (by decide)
  have e8 : ∀ (X : zI) k v, zw_u X 178 k v 148 = X 148 := fun X k v => zw_u_off _ _ _ (by decide)
  unfold j_X11_literal_85 zm_W
  rw [zp_g148.1, zw_g_t, p1, Option.bind_some, zw_let_e, q1, Option.bind_some, if_pos (show I2 148 13 ≤ 0 by rw [h13]; decide)]
  simp only [zE_gM, zE_rM sw, zE_sM, zw_g_t, zw_let_e, e3, e4, e5, e6, e7, e8, h37, h44, hv1, hv2, zE_in hl (by decide), zE_cl (show l < 2 ^ 31 by omega), nI_1]
theorem zm_b (q : Bool) : zw_b (zr_b q) = true := by cases q <;> decide
/-- what a literal leaves -/
def zm_RL (T : Nat → Nat) (n : Nat) (I0 I I2 : zI) (m0 l0 m l : Nat) (o : Bool) (ω : zp_OL) : Prop := match ω with
  | .inl r => zm_PL I0 I2 m0 l0 r.1 (m + r.2.2.2.1.length + r.2.2.2.2.length) (l + 1) ∧ zm_Fr I I2 m l ∧ ∀ I3, zm_Cl I2 I3 m (m + r.2.2.2.1.length + r.2.2.2.2.length) l (l + 1) → zr_LM I3 l (o, r.2)
  | .inr y => zm_D T n I0 I2 m0 l0 y
theorem zm_literal {sw : Bool} {T : Nat → Nat} {n : Nat} {I0 I : zI} {J : zJ} {m0 l0 t m l : Nat} {o : Bool} (hY : zp_Y T n I0 J) (h : zm_PL I0 I m0 l0 t m l) (hm : m0 ≤ m) (hl : l0 ≤ l) (hmt : m ≤ 520 + t) (hl4 : l < 400) (hmu : m + 520 ≤ zm_u I0 + t) (hlv : l < zm_v I0) (h1 : 1 ≤ t) (ht : t ≤ 500) (hg : zt_go T n t) : ∃ I2, f_X11_literal 148 (zr_b o) I (zE_R sw) = some I2 ∧ zm_RL T n I0 I I2 m0 l0 m l o (zp_Lt (zt_K T n) (zp_V T n) t) := by
  obtain ⟨a1, a2, a3, a4, a5, a6⟩ := h
  have hYI := a1.Y hY
  obtain ⟨v, I1, n1, n2⟩ := zm_nots (sw := sw) (v1 := zr_b o) hYI 500 1000000 t I false (by omega) (by decide) ⟨fun _ _ => rfl, a2, fun q => absurd rfl q, a3, fun _ _ _ _ => rfl⟩ ht hg
  have n1 : zw_it (s_X11_literal_2 148 (zr_b o) (zE_R sw)) 1000000 (0, I) = some (v, I1) := n1
  have no := zp_N_ok (T := T) (n := n) (t0 := t) 500 t false (Nat.le_refl _) ht hg (fun q => by cases q)
  unfold f_X11_literal zp_Lt
  rw [n1, Option.bind_some, zp_g148.1, zw_g_t, zw_let_e]
  cases hN : zp_N (zt_K T n) 500 t false with
  | inr y =>
    rw [hN] at n2 no
    obtain ⟨t2, b1, b2⟩ := n2
    have d := zm_T_D b2 no.1 b1 m l
    obtain ⟨I2, p1, p2⟩ := d.expr (sw := sw)
    obtain ⟨I3, q1, q2⟩ := p2.lit60 (sw := sw) (zr_b o) v (I1 148 44) 0
    refine ⟨I3, ?_, zm_D.base a1 q2 hm hl⟩
    show ((f_X11_expression 148 I1 (zE_R sw)).bind _) = _
    rw [p1, Option.bind_some, if_neg p2.ne.2]
    exact q1
  | inl a =>
    rw [hN] at n2 no
    obtain ⟨rfl, b2⟩ := n2
    obtain ⟨c1, c2, c3, c4⟩ := no
    have k44 : I1 148 44 = nI m := (b2.2.2.2.2 44 (by decide) (by decide) (by decide)).trans a5
    have k12 : I1 148 12 = 0 := (b2.2.2.2.2 12 (by decide) (by decide) (by decide)).trans a4
    have k37 : I1 148 37 = nI l := (b2.2.2.2.2 37 (by decide) (by decide) (by decide)).trans a6
    have hY1 := zm_T_Y hYI b2
    obtain ⟨I2, s1, s2⟩ := zm_expr0 (sw := sw) hY1 b2.2.1 b2.2.2.2.1 k12 k44 (by omega) c2 c3
    have so := zp_S_ok (T := T) (n := n) (V := zp_V T n) 8 0 a.1 c2 c3
    dsimp only
    rw [s1, Option.bind_some]
    have fr1 : zm_Fr I0 I1 m0 l0 := a1.tr (zm_T_Fr b2 m l) hm hl
    obtain ⟨uu1, vv1⟩ := fr1.uv
    cases hS : zp_S (zt_K T n) (zp_V T n) 8 0 a.1 with
    | inr y =>
      rw [hS] at s2 so
      obtain ⟨t2, o2, W2, cc, g1, g2, -, g3⟩ := s2
      have d := zm_G_D g1 (by omega) so.1 g2 l
      obtain ⟨I3, q1, q2⟩ := d.lit60 (sw := sw) (zr_b o) (zr_b a.2) (I1 148 44) 0
      refine ⟨I3, ?_, zm_D.base fr1 q2 hm hl⟩
      rw [if_neg d.ne.2]
      exact q1
    | inl x =>
      rw [hS] at s2 so
      obtain ⟨d1, d2, d3, d4⟩ := so
      have s2 : zm_G T n I1 I2 m x.1 0 [] x.2 (0, 0) := s2
      have fr2 : zm_Fr I1 I2 m l := zm_G_Fr s2 (by omega) l
      have hY2 := fr2.Y hY1
      have i13 : I2 148 13 = 0 := s2.2.1
      have i11 : I2 148 11 = nI x.1 := s2.2.2.2.1
      have i12 : I2 148 12 = 0 := s2.2.2.2.2.1
      have i44 : I2 148 44 = nI (m + x.2.length) := s2.2.2.2.2.2.1
      have i37 : I2 148 37 = nI l := (s2.2.2.2.2.2.2.2.2.1 37 (by decide) (by decide) (by decide) (by decide) (by decide) (by decide)).trans k37
      obtain ⟨tk, -⟩ := hY2.2.2 x.1 d2 d3
      have kb := zp_K35 hY.2.1 x.1
      have cmp := zm_cmp _ kb
      dsimp only
      rw [if_pos (show I2 148 13 ≤ 0 by rw [i13]; decide)]
      simp only [zE_gM, zE_rM sw, zE_sM, zw_g_t, i11, zE_in (show x.1 < 503 by omega) (by decide), zE_cl (show x.1 < 2 ^ 31 by omega), tk]
      unfold j_X11_literal_60
      rw [zp_g148.1, zw_g_t, if_neg (fun r => r i13)]
      by_cases e1 : 14 ≤ zt_K T n x.1 ∧ zt_K T n x.1 ≤ 17
      · obtain ⟨m1, m2, m3⟩ := cmp.1 e1
        rw [m1, if_neg m2, if_pos m3, if_pos e1]
        by_cases e2 : x.1 < 500
        · rw [if_pos e2]
          obtain ⟨I3, ei3⟩ : ∃ I3, I3 = zw_u I2 148 11 (nI (x.1 + 1)) := ⟨_, rfl⟩
          have on : f_X11_goesOn 148 I2 (zE_R sw) = some I3 := by rw [ei3]; exact zp_on i11 e2
          have f3 : ∀ y, y ≠ 11 → I3 148 y = I2 148 y := fun y hy => by rw [ei3, zE_u2 _ _ (by omega)]
          have fr3 : zm_Fr I1 I3 m l := by rw [ei3]; exact zm_Fr_u fr2 (Or.inl rfl) _
          obtain ⟨uu3, vv3⟩ := fr3.uv
          have r3 : ∀ b, b ≠ 148 → I3 b = I2 b := fun b hb => by rw [ei3, zw_u_off _ _ _ hb]
          have g3 := zp_go d3 (by omega) (by omega)
          obtain ⟨I4, u1, u2⟩ := zm_expr0 (sw := sw) (fr3.Y hY1) ((f3 13 (by decide)).trans i13) (show I3 148 11 = nI (x.1 + 1) by rw [ei3, zE_u1]) ((f3 12 (by decide)).trans i12) ((f3 44 (by decide)).trans i44) (by omega) (by omega) g3
          have po := zp_S_ok (T := T) (n := n) (V := zp_V T n) 8 0 (x.1 + 1) (by omega) g3
          cases hS2 : zp_S (zt_K T n) (zp_V T n) 8 0 (x.1 + 1) with
          | inr y =>
            rw [hS2] at u2 po
            obtain ⟨t2, o2, W2, cc, w1, w2, -, w3⟩ := u2
            have d := zm_G_D w1 (by omega) po.1 w2 l
            refine ⟨I4, ?_, zm_D.base (fr1.tr fr3 hm hl) d (by omega) hl⟩
            unfold j_X11_literal_85
            rw [zp_g148.1, zw_g_t, on, Option.bind_some, zw_let_e, u1, Option.bind_some, if_neg d.ne.2]
          | inl z =>
            rw [hS2] at u2 po
            obtain ⟨w1, w2, w3, w4⟩ := po
            have u2 : zm_G T n I3 I4 (m + x.2.length) z.1 0 [] z.2 (0, 0) := u2
            have fr4 : zm_Fr I3 I4 (m + x.2.length) l := zm_G_Fr u2 (by omega) l
            obtain ⟨uu4, vv4⟩ := fr4.uv
            have j37 : I4 148 37 = nI l := (u2.2.2.2.2.2.2.2.2.1 37 (by decide) (by decide) (by decide) (by decide) (by decide) (by decide)).trans ((f3 37 (by decide)).trans i37)
            have j44 : I4 148 44 = nI (m + x.2.length + z.2.length) := u2.2.2.2.2.2.1
            have L := zm_lit85 (v1 := zr_b o) (v2 := zr_b a.2) (v3 := I1 148 44) (v4 := nI (zp_so (zt_K T n x.1))) on u1 u2.2.1 j37 hl4 j44 (zm_b o) (zm_b a.2)
            rw [k44, (f3 44 (by decide)).trans i44] at L
            refine ⟨_, by rw [k44]; exact L, ?_⟩
            have frI : zm_Fr I I4 m l := ((zm_T_Fr b2 m l).tr fr3 (Nat.le_refl _) (Nat.le_refl _)).tr fr4 (by omega) (Nat.le_refl _)
            have frW := frI.tr (zm_W_Fr (m := m) (l := l) (v4 := nI (zp_so (zt_K T n x.1))) (v2 := zr_b a.2) (v1 := zr_b o) (v3 := nI m) (x := nI (m + x.2.length)) (e := nI (m + x.2.length + z.2.length)) (show l < zm_v I4 by omega)) (Nat.le_refl _) (Nat.le_refl _)
            obtain ⟨W1, W2, W3, W4, W5, W6⟩ := zm_W_l (I := I4) (l := l) (v4 := nI (zp_so (zt_K T n x.1))) (v2 := zr_b a.2) (v1 := zr_b o) (v3 := nI m) (x := nI (m + x.2.length)) (e := nI (m + x.2.length + z.2.length))
            refine ⟨⟨a1.tr frW hm hl, (zm_W_o 148 13 (by omega) (by omega)).trans u2.2.1, (zm_W_o 148 11 (by omega) (by omega)).trans u2.2.2.2.1, (zm_W_o 148 12 (by omega) (by omega)).trans u2.2.2.2.2.1, (zm_W_o 148 44 (by omega) (by omega)).trans j44, zm_W_37⟩, frW, fun I5 h5 => ?_⟩
            have h5 : zm_Cl (zm_W I4 l (nI (zp_so (zt_K T n x.1))) (zr_b a.2) (zr_b o) (nI m) (nI (m + x.2.length)) (nI (m + x.2.length + z.2.length))) I5 m (m + x.2.length + z.2.length) l (l + 1) := h5
            have k5 : ∀ b, 173 ≤ b → b ≤ 178 → I5 b l = zm_W I4 l (nI (zp_so (zt_K T n x.1))) (zr_b a.2) (zr_b o) (nI m) (nI (m + x.2.length)) (nI (m + x.2.length + z.2.length)) b l := fun b hb1 hb2 => h5.2 b l hb1 hb2 (Nat.le_refl _) (by omega)
            refine ⟨(k5 173 (by decide) (by decide)).trans W1, (k5 174 (by decide) (by decide)).trans W2, (k5 175 (by decide) (by decide)).trans W3, m, (k5 176 (by decide) (by decide)).trans W4, (k5 177 (by decide) (by decide)).trans W5, (k5 178 (by decide) (by decide)).trans W6, by show m + x.2.length + z.2.length ≤ 1040; omega, ?_, ?_⟩
            · refine zr_sg_tr s2.2.2.2.2.2.2.2.2.2.1 (fun i q1 q2 => ⟨?_, ?_⟩)
              · rw [(h5.1 i q1 (Nat.lt_of_lt_of_le q2 (Nat.le_add_right _ _))).1, zm_W_o 179 i (by omega) (by omega), (fr4.2.2.1 i (Or.inl q2)).1, r3 179 (by decide)]
              · rw [(h5.1 i q1 (Nat.lt_of_lt_of_le q2 (Nat.le_add_right _ _))).2, zm_W_o 180 i (by omega) (by omega), (fr4.2.2.1 i (Or.inl q2)).2, r3 180 (by decide)]
            · refine zr_sg_tr u2.2.2.2.2.2.2.2.2.2.1 (fun i q1 q2 => ⟨?_, ?_⟩)
              · rw [(h5.1 i (Nat.le_trans (Nat.le_add_right _ _) q1) q2).1]; exact zm_W_o 179 i (by omega) (by omega)
              · rw [(h5.1 i (Nat.le_trans (Nat.le_add_right _ _) q1) q2).2]; exact zm_W_o 180 i (by omega) (by omega)
        · rw [if_neg e2]
          have e5 : x.1 = 500 := by omega
          obtain ⟨I3, w1, w2⟩ := zm_fail (sw := sw) hY1 s2 d2 d3 2
          have d := zm_G_D w2 (by omega) (Or.inr rfl) d2 l
          have on : f_X11_goesOn 148 I2 (zE_R sw) = some I3 := zp_onE (by rw [i11, e5]) w1
          obtain ⟨I4, x1, x2⟩ := d.expr (sw := sw)
          refine ⟨I4, ?_, zm_D.base fr1 x2 hm hl⟩
          unfold j_X11_literal_85
          rw [zp_g148.1, zw_g_t, on, Option.bind_some, zw_let_e, x1, Option.bind_some, if_neg x2.ne.2]
      · rw [if_neg e1]
        obtain ⟨I3, w1, w2⟩ := zm_fail (sw := sw) hY1 s2 d2 d3 1
        have w1 : f_X11_fail 148 1 I2 (zE_R sw) = some I3 := w1
        have d := zm_G_D w2 (by omega) (Or.inl rfl) d2 l
        obtain ⟨I4, x1, x2⟩ := d.lit85 (sw := sw) (zr_b o) (zr_b a.2) (I1 148 44) (nI (zt_mk (zt_K T n x.1)) - 11)
        have j80 : j_X11_literal_80 148 (zr_b o) (zr_b a.2) (I1 148 44) (nI (zt_mk (zt_K T n x.1)) - 11) I2 (zE_R sw) = some I4 := by
          unfold j_X11_literal_80
          rw [zp_g148.1, zw_g_t, w1, Option.bind_some, x1]
        refine ⟨I4, ?_, zm_D.base fr1 x2 hm hl⟩
        rcases cmp.2 e1 with q | ⟨q, q2⟩
        · rw [if_pos q]; exact j80
        · rw [if_neg q, if_neg q2]; exact j80
