/-! ===== a GRADE, a PRICE, as the model reads them: the whole ===== -/
/-- a condition, to the rule's end -/
theorem zx_condM {sw b : Bool} {T : Nat → Nat} {n : Nat} {I0 I : zI} {J : zJ} {t m l k f : Nat} {σ : zx_S} {e : List zr_C} {v2 : Int32} {Q2 : List zr_L → zr_Q} (h : zx_M b T n I0 I J t σ) (h44 : I 148 44 = nI m) (h37 : I 148 37 = nI l) (hm4 : m ≤ 520 * zq_lv b + t) (hl4 : 3 * l ≤ 600 * zq_lv b + t) (hl0 : 200 * zq_lv b ≤ l) (h1 : 1 ≤ t) (ht : t ≤ 500) (hg : zt_go T n t) (hk : k < 16) (hn : ¬ zr_has σ.2.1 k) (r1 : I 169 (16 * zq_lv b + k) = nI f) (r2 : I 170 (16 * zq_lv b + k) = nI (f + e.length)) (r0 : 520 * zq_lv b ≤ f) (r3 : f + e.length ≤ m) (r4 : zr_sg (I 179) (I 180) f e) (r5 : I 171 (16 * zq_lv b + k) = nI l) (hnew : ∀ ls k2, zr_has (Q2 ls) k2 → (k2 = k ∧ (Q2 ls).2.2.1 k2 = e ∧ (Q2 ls).2.2.2 k2 = ls) ∨ (k2 ≠ k ∧ zr_has σ.2.1 k2 ∧ (Q2 ls).2.2.1 k2 = σ.2.1.2.2.1 k2 ∧ (Q2 ls).2.2.2 k2 = σ.2.1.2.2.2 k2)) (hv : ∀ ls, (v2 = 0 ∧ (Q2 ls).1 = σ.2.1.1 + 1 ∧ (Q2 ls).2.1 = σ.2.1.2.1) ∨ (v2 = 1 ∧ (Q2 ls).1 = σ.2.1.1 ∧ (Q2 ls).2.1 = σ.2.1.2.1 + 1)) : ∃ I2, j_X11_tellRule_74 148 (nI (16 * zq_lv b + k)) v2 1 I (zE_R sw) J = some (I2, J) ∧ zx_RM b T n I0 I2 J (match zp_Cn (zt_K T n) (zp_V T n) 502 t true with
    | .inr y => .inr y
    | .inl x => zx_need (zt_K T n) 5 x.1 (.inl (x.1 + 1, (σ.1, Q2 x.2, σ.2.2.1, σ.2.2.2)))) := by
  have hlv := zq_lv1 b
  obtain ⟨-, ⟨b1, b2, b3, b4, -⟩, a3, -⟩ := id h
  obtain ⟨u1, u2⟩ := zx_uv b4
  have PL : zm_PL I I m l t m l := ⟨zm_Fr_r I m l, b1, b2, b3, h44, h37⟩
  obtain ⟨I1, s1, s2⟩ := zm_cond (sw := sw) (J2 := J) (v1 := nI (16 * zq_lv b + k)) (v2 := v2) a3 502 1000000 t m l I true (by omega) (by omega) PL (Nat.le_refl _) (Nat.le_refl _) (by omega) (by omega) (by omega) (by omega) h1 ht hg
  have s1 : zw_it (s_X11_tellRule_77 148 (nI (16 * zq_lv b + k)) v2 (zE_R sw) J) 1000000 (1, 1, I) = some I1 := s1
  unfold j_X11_tellRule_74
  rw [s1, Option.bind_some]
  cases hC : zp_Cn (zt_K T n) (zp_V T n) 502 t true with
  | inr y =>
    rw [hC] at s2
    have s2 : zm_D T n I I1 m l y := s2
    exact zx_133G (zx_MF_D h h44 h37 (by omega) (by omega) ht s2) hk
  | inl x =>
    rw [hC] at s2
    obtain ⟨m2, ⟨f1, f2, f3, f4, f5, f6⟩, f7, f8, f9, f10, f11, f12, f13⟩ := s2
    have M := zx_M_Fr h h44 h37 (by omega) (by omega) ht f7 f2 f3 f4 f5 f6 f9 f10 (Nat.le_add_right _ _) (by omega)
    have k19 : I1 148 19 = nI (zq_lv b) := M.2.1.2.2.2.1
    have x5 : x.1 ≤ 500 := f12
    refine zx_133M (sw := sw) (f := f) (l0 := l) (e := e) (ls := x.2) M f5 f6 (by omega) (by omega) f12 f13 hk hn ⟨?_, ?_, by omega, ?_, ?_, rfl, fun I3 h3 => f8 I3 ⟨fun i i1 i2 => h3.1 i (by omega) i2, fun a i x1 x2 i1 i2 => h3.2 a i x1 x2 (by omega) i2⟩⟩ (hnew x.2) (hv x.2)
    · rw [f7.1 169 (by decide) (by decide)]; exact r1
    · rw [f7.1 170 (by decide) (by decide)]; exact r2
    · exact zr_sg_tr r4 (fun i i1 i2 => f7.2.2.1 i (Or.inl (by omega)))
    · rw [f7.1 171 (by decide) (by decide)]; exact r5
/-- a rule behind its name -/
def zx_ru (R : zR) (j : Nat) (v2 : Int32) (I : zI) (J : zJ) : Option (zI × zJ) := zw_let (zw_u I 169 j (I 148 44) : zI) fun I6 => (if v2 = 0 then j_X11_tellRule_26 148 (nI j) v2 I6 R J else (f_X11_expression 148 I6 R).bind fun q47 => (j_X11_tellRule_26 148 (nI j) v2 q47 R J))
theorem zx_26 {sw b : Bool} {I : zI} {J : zJ} {k : Nat} {v2 : Int32} (hk : k < 16) : j_X11_tellRule_26 148 (nI (16 * zq_lv b + k)) v2 I (zE_R sw) J = (f_X11_is 148 26 (zw_u (zw_u I 170 (16 * zq_lv b + k) (I 148 44)) 171 (16 * zq_lv b + k) (I 148 37)) (zE_R sw)).bind fun q15 => (if ¬ v2 = 0 then if q15 = 0 then j_X11_tellRule_74 148 (nI (16 * zq_lv b + k)) v2 q15 (zw_u (zw_u I 170 (16 * zq_lv b + k) (I 148 44)) 171 (16 * zq_lv b + k) (I 148 37)) (zE_R sw) J else (f_X11_goesOn 148 (zw_u (zw_u I 170 (16 * zq_lv b + k) (I 148 44)) 171 (16 * zq_lv b + k) (I 148 37)) (zE_R sw)).bind fun q45 => (j_X11_tellRule_74 148 (nI (16 * zq_lv b + k)) v2 q15 q45 (zE_R sw) J) else (f_X11_must 148 26 (zw_u (zw_u I 170 (16 * zq_lv b + k) (I 148 44)) 171 (16 * zq_lv b + k) (I 148 37)) (zE_R sw)).bind fun q46 => (j_X11_tellRule_74 148 (nI (16 * zq_lv b + k)) v2 q15 q46 (zE_R sw) J)) := by
  have hlv := zq_lv1 b
  have e37 : zw_u I 170 (16 * zq_lv b + k) (I 148 44) 148 37 = I 148 37 := by rw [zw_u_off _ _ _ (by decide)]
  unfold j_X11_tellRule_26
  simp only [zE_gM, zE_rM sw, zE_sM, zw_g_t, zw_let_e, zE_in (show 16 * zq_lv b + k < 32 by omega) (by decide), zE_cl (show 16 * zq_lv b + k < 2 ^ 31 by omega), e37]
theorem zx_26F {sw b : Bool} {T : Nat → Nat} {n : Nat} {I0 I : zI} {J : zJ} {k f e : Nat} {v2 : Int32} (h : zx_MF b T n I0 I f e) (hk : k < 16) : ∃ I2, j_X11_tellRule_26 148 (nI (16 * zq_lv b + k)) v2 I (zE_R sw) J = some (I2, J) ∧ zx_MF b T n I0 I2 f e := by
  have w := zx_Wr (a := 170) (by decide) (by decide)
  have w2 := zx_Wr (a := 171) (by decide) (by decide)
  have lw := zx_lv16 (b := b) (W := 16) hk
  have F := (h.w (a := 170) (i := 16 * zq_lv b + k) (I 148 44) (by decide) (by decide) (by rw [w]; exact lw.1) (by rw [w]; exact lw.2)).w (a := 171) (i := 16 * zq_lv b + k) (I 148 37) (by decide) (by decide) (by rw [w2]; exact lw.1) (by rw [w2]; exact lw.2)
  rw [zx_26 hk, zp_isF F.ne.1, Option.bind_some]
  by_cases c : v2 = 0
  · rw [if_neg (fun r => r c), F.must 26, Option.bind_some]
    exact zx_74F F hk (Or.inl rfl)
  · rw [if_pos c, if_pos rfl]
    exact zx_74F F hk (Or.inl rfl)
theorem zx_ruF {sw b : Bool} {T : Nat → Nat} {n : Nat} {I0 I : zI} {J : zJ} {k f e : Nat} {v2 : Int32} (h : zx_MF b T n I0 I f e) (hk : k < 16) : ∃ I2, zx_ru (zE_R sw) (16 * zq_lv b + k) v2 I J = some (I2, J) ∧ zx_MF b T n I0 I2 f e := by
  have w := zx_Wr (a := 169) (by decide) (by decide)
  have lw := zx_lv16 (b := b) (W := 16) hk
  have F := h.w (a := 169) (i := 16 * zq_lv b + k) (I 148 44) (by decide) (by decide) (by rw [w]; exact lw.1) (by rw [w]; exact lw.2)
  unfold zx_ru
  rw [zw_let_e]
  by_cases c : v2 = 0
  · rw [if_pos c]
    exact zx_26F F hk
  · rw [if_neg c, zm_exprF F.ne.1, Option.bind_some]
    exact zx_26F (F.f (y := 48) 0 (by omega)) hk
/-- a GRADE behind its name -/
theorem zx_ruM0 {sw b : Bool} {T : Nat → Nat} {n : Nat} {I0 I : zI} {J : zJ} {t : Nat} {σ : zx_S} (h : zx_M b T n I0 I J t σ) (h8 : σ.2.1.1 < 8) (h1 : 1 ≤ t) (ht : t ≤ 500) (hg : zt_go T n t) : ∃ I2, zx_ru (zE_R sw) (16 * zq_lv b + σ.2.1.1) 0 I J = some (I2, J) ∧ zx_RM b T n I0 I2 J (zx_need (zt_K T n) 24 t (match zp_Cn (zt_K T n) (zp_V T n) 502 (t + 1) true with
    | .inr y => .inr y
    | .inl x => zx_need (zt_K T n) 5 x.1 (.inl (x.1 + 1, (σ.1, zx_qg σ.2.1 x.2, σ.2.2.1, σ.2.2.2))))) := by
  have hlv := zq_lv1 b
  obtain ⟨k, ek⟩ : ∃ k, k = σ.2.1.1 := ⟨_, rfl⟩
  rw [← ek] at h8 ⊢
  have hn : ¬ zr_has σ.2.1 k := by unfold zr_has; omega
  obtain ⟨m, l, d1, d2, d3, d4, d5, d6, -⟩ := h.2.2.2.2.2.2
  unfold zx_ru
  rw [zw_let_e, if_pos rfl, d1]
  have M1 := zx_M_w h (a := 169) (by decide) (by decide) (show k < 16 by omega) hn (nI m)
  have e44 : zw_u I 169 (16 * zq_lv b + k) (nI m) 148 44 = nI m := by rw [zw_u_off _ _ _ (by decide)]; exact d1
  have e37 : zw_u I 169 (16 * zq_lv b + k) (nI m) 148 37 = nI l := by rw [zw_u_off _ _ _ (by decide)]; exact d2
  rw [zx_26 (show k < 16 by omega), e44, e37]
  have M2 := zx_M_w (zx_M_w M1 (a := 170) (by decide) (by decide) (show k < 16 by omega) hn (nI m)) (a := 171) (by decide) (by decide) (show k < 16 by omega) hn (nI l)
  obtain ⟨K, eK⟩ : ∃ K, K = zw_u (zw_u (zw_u I 169 (16 * zq_lv b + k) (nI m)) 170 (16 * zq_lv b + k) (nI m)) 171 (16 * zq_lv b + k) (nI l) := ⟨_, rfl⟩
  rw [← eK] at M2 ⊢
  have k44 : K 148 44 = nI m := by rw [eK, zw_u_off _ _ _ (by decide), zw_u_off _ _ _ (by decide), zw_u_off _ _ _ (by decide)]; exact d1
  have k37 : K 148 37 = nI l := by rw [eK, zw_u_off _ _ _ (by decide), zw_u_off _ _ _ (by decide), zw_u_off _ _ _ (by decide)]; exact d2
  have k169 : K 169 (16 * zq_lv b + k) = nI m := by rw [eK, zw_u_off _ _ _ (by decide), zw_u_off _ _ _ (by decide), zE_u1]
  have k170 : K 170 (16 * zq_lv b + k) = nI m := by rw [eK, zw_u_off _ _ _ (by decide), zE_u1]
  have k171 : K 171 (16 * zq_lv b + k) = nI l := by rw [eK, zE_u1]
  have is := zx_isM (sw := sw) (kc := 24) (kv := 26) M2 ht hg (by decide) rfl
  rw [is, Option.bind_some, if_neg (show ¬ ¬ (0 : Int32) = 0 from fun r => r rfl)]
  unfold zx_need
  have tk := zm_must (sw := sw) (kc := 24) (kv := 26) M2.2.2.1 (zx_T0 M2) ht hg (by decide) rfl
  rcases zx_mustM (sw := sw) (kc := 24) (kv := 26) M2 ht hg (by decide) rfl with ⟨c1, c2, I1, m1, m2⟩ | ⟨c1, I1, m1, m2⟩
  · rw [m1, Option.bind_some, if_pos (show zt_K T n t = 24 ∧ t < 500 from ⟨c1, c2⟩), decide_eq_true c1]
    obtain ⟨I1', n1, n2⟩ := tk
    have e1 : I1' = I1 := by rw [m1] at n1; cases n1; rfl
    subst e1
    have n2 : zm_T T n K I1' (t + 1) (0, 0) := by
      rcases n2 with n2 | n2
      · exact n2.2.2
      · exact absurd ⟨c1, c2⟩ n2.1
    have fa : ∀ a, a ≠ 148 → I1' a = K a := n2.1
    exact zx_condM (sw := sw) (k := k) (f := m) (e := []) (v2 := 0) (Q2 := fun ls => zx_qg σ.2.1 ls) m2 ((n2.2.2.2.2 44 (by decide) (by decide) (by decide)).trans k44) ((n2.2.2.2.2 37 (by decide) (by decide) (by decide)).trans k37) (by omega) (by omega) d5 (by omega) (by omega) (zp_go hg (by omega) (by omega)) (by omega) hn (by rw [fa 169 (by decide)]; exact k169) (by rw [fa 170 (by decide)]; exact k170) d3 (Nat.le_refl _) trivial (by rw [fa 171 (by decide)]; exact k171) (fun ls j hj => by
        have hj : j < σ.2.1.1 + 1 ∨ (8 ≤ j ∧ j < 8 + σ.2.1.2.1) := hj
        show (j = k ∧ zx_up σ.2.1.2.2.1 σ.2.1.1 [] j = [] ∧ zx_up σ.2.1.2.2.2 σ.2.1.1 ls j = ls) ∨ (j ≠ k ∧ zr_has σ.2.1 j ∧ zx_up σ.2.1.2.2.1 σ.2.1.1 [] j = σ.2.1.2.2.1 j ∧ zx_up σ.2.1.2.2.2 σ.2.1.1 ls j = σ.2.1.2.2.2 j)
        by_cases c : j = k
        · refine Or.inl ⟨c, ?_, ?_⟩
          · rw [c, ek, zx_up1]
          · rw [c, ek, zx_up1]
        · exact Or.inr ⟨c, by unfold zr_has; omega, zx_up2 _ _ (by omega), zx_up2 _ _ (by omega)⟩) (fun ls => Or.inl ⟨rfl, rfl, rfl⟩)
  · rw [m1, Option.bind_some, if_neg c1]
    refine zx_74F m2 (by omega) ?_
    by_cases c : zt_K T n t = 24
    · rw [decide_eq_true c]; exact Or.inr rfl
    · rw [decide_eq_false c]; exact Or.inl rfl
/-- a PRICE behind its name -/
theorem zx_ruM1 {sw b : Bool} {T : Nat → Nat} {n : Nat} {I0 I : zI} {J : zJ} {t : Nat} {σ : zx_S} (h : zx_M b T n I0 I J t σ) (h8 : σ.2.1.2.1 < 8) (h88 : σ.2.1.1 ≤ 8) (h1 : 1 ≤ t) (ht : t ≤ 500) (hg : zt_go T n t) : ∃ I2, zx_ru (zE_R sw) (16 * zq_lv b + (8 + σ.2.1.2.1)) 1 I J = some (I2, J) ∧ zx_RM b T n I0 I2 J (match zp_S (zt_K T n) (zp_V T n) 8 0 t with
    | .inr y => .inr y
    | .inl x => match zx_cd (zt_K T n) (zp_V T n) x.1 with
      | .inr y => .inr y
      | .inl z => zx_need (zt_K T n) 5 z.1 (.inl (z.1 + 1, (σ.1, zx_qp σ.2.1 x.2 z.2, σ.2.2.1, σ.2.2.2)))) := by
  have hlv := zq_lv1 b
  obtain ⟨k, ek⟩ : ∃ k, k = 8 + σ.2.1.2.1 := ⟨_, rfl⟩
  rw [← ek]
  have k16 : k < 16 := by omega
  have hn : ¬ zr_has σ.2.1 k := by unfold zr_has; omega
  obtain ⟨m, l, d1, d2, d3, d4, d5, d6, -⟩ := h.2.2.2.2.2.2
  unfold zx_ru
  rw [zw_let_e, if_neg zE_10, d1]
  have M1 := zx_M_w h (a := 169) (by decide) (by decide) k16 hn (nI m)
  obtain ⟨K, eK⟩ : ∃ K, K = zw_u I 169 (16 * zq_lv b + k) (nI m) := ⟨_, rfl⟩
  rw [← eK] at M1 ⊢
  have k44 : K 148 44 = nI m := by rw [eK, zw_u_off _ _ _ (by decide)]; exact d1
  have k37 : K 148 37 = nI l := by rw [eK, zw_u_off _ _ _ (by decide)]; exact d2
  have k169 : K 169 (16 * zq_lv b + k) = nI m := by rw [eK, zE_u1]
  obtain ⟨-, ⟨b1, b2, b3, b4, -⟩, a3, -⟩ := id M1
  obtain ⟨u1, u2⟩ := zx_uv b4
  obtain ⟨K2, s1, s2⟩ := zm_expr0 (sw := sw) a3 b1 b2 b3 k44 (by omega) ht hg
  have so := zp_S_ok (T := T) (n := n) (V := zp_V T n) 8 0 t ht hg
  rw [s1, Option.bind_some]
  cases hS : zp_S (zt_K T n) (zp_V T n) 8 0 t with
  | inr y =>
    rw [hS] at s2 so
    obtain ⟨t2, o2, W2, cc, g1, g2, -, g3⟩ := s2
    have D := zm_G_D g1 (by omega) so.1 g2 l
    exact zx_26F (zx_MF_D M1 k44 k37 (by omega) (by omega) ht D) k16
  | inl x =>
    rw [hS] at s2 so
    obtain ⟨o1, o2, o3, o4⟩ := so
    have s2 : zm_G T n K K2 m x.1 0 [] x.2 (0, 0) := s2
    have fr := zm_G_Fr s2 (by omega) l
    have j13 : K2 148 13 = 0 := s2.2.1
    have j11 : K2 148 11 = nI x.1 := s2.2.2.2.1
    have j12 : K2 148 12 = 0 := s2.2.2.2.2.1
    have j44 : K2 148 44 = nI (m + x.2.length) := s2.2.2.2.2.2.1
    have j37 : K2 148 37 = nI l := (s2.2.2.2.2.2.2.2.2.1 37 (by decide) (by decide) (by decide) (by decide) (by decide) (by decide)).trans k37
    have sg : zr_sg (K2 179) (K2 180) m x.2 := s2.2.2.2.2.2.2.2.2.2.1
    have M2 := zx_M_Fr M1 k44 k37 (by omega) (by omega) ht fr j13 j11 j12 j44 j37 (Nat.le_add_right _ _) (by omega) (Nat.le_refl _) (by omega)
    have j169 : K2 169 (16 * zq_lv b + k) = nI m := by rw [fr.1 169 (by decide) (by decide)]; exact k169
    rw [zx_26 k16, j44, j37]
    have M3 := zx_M_w (zx_M_w M2 (a := 170) (by decide) (by decide) k16 hn (nI (m + x.2.length))) (a := 171) (by decide) (by decide) k16 hn (nI l)
    obtain ⟨L, eL⟩ : ∃ L, L = zw_u (zw_u K2 170 (16 * zq_lv b + k) (nI (m + x.2.length))) 171 (16 * zq_lv b + k) (nI l) := ⟨_, rfl⟩
    rw [← eL] at M3 ⊢
    have fL : ∀ a, a ≠ 170 → a ≠ 171 → L a = K2 a := fun a x1 x2 => by rw [eL, zw_u_off _ _ _ x2, zw_u_off _ _ _ x1]
    have l44 : L 148 44 = nI (m + x.2.length) := by rw [fL 148 (by decide) (by decide)]; exact j44
    have l37 : L 148 37 = nI l := by rw [fL 148 (by decide) (by decide)]; exact j37
    have l169 : L 169 (16 * zq_lv b + k) = nI m := by rw [fL 169 (by decide) (by decide)]; exact j169
    have l170 : L 170 (16 * zq_lv b + k) = nI (m + x.2.length) := by rw [eL, zw_u_off _ _ _ (by decide), zE_u1]
    have l171 : L 171 (16 * zq_lv b + k) = nI l := by rw [eL, zE_u1]
    have lsg : zr_sg (L 179) (L 180) m x.2 := by rw [fL 179 (by decide) (by decide), fL 180 (by decide) (by decide)]; exact sg
    have hnew : ∀ ls j, zr_has (zx_qp σ.2.1 x.2 ls) j → (j = k ∧ (zx_qp σ.2.1 x.2 ls).2.2.1 j = x.2 ∧ (zx_qp σ.2.1 x.2 ls).2.2.2 j = ls) ∨ (j ≠ k ∧ zr_has σ.2.1 j ∧ (zx_qp σ.2.1 x.2 ls).2.2.1 j = σ.2.1.2.2.1 j ∧ (zx_qp σ.2.1 x.2 ls).2.2.2 j = σ.2.1.2.2.2 j) := by
      intro ls j hj
      have hj : j < σ.2.1.1 ∨ (8 ≤ j ∧ j < 8 + (σ.2.1.2.1 + 1)) := hj
      show (j = k ∧ zx_up σ.2.1.2.2.1 (8 + σ.2.1.2.1) x.2 j = x.2 ∧ zx_up σ.2.1.2.2.2 (8 + σ.2.1.2.1) ls j = ls) ∨ (j ≠ k ∧ zr_has σ.2.1 j ∧ zx_up σ.2.1.2.2.1 (8 + σ.2.1.2.1) x.2 j = σ.2.1.2.2.1 j ∧ zx_up σ.2.1.2.2.2 (8 + σ.2.1.2.1) ls j = σ.2.1.2.2.2 j)
      by_cases c : j = k
      · refine Or.inl ⟨c, ?_, ?_⟩
        · rw [c, ek, zx_up1]
        · rw [c, ek, zx_up1]
      · exact Or.inr ⟨c, by unfold zr_has; omega, zx_up2 _ _ (by omega), zx_up2 _ _ (by omega)⟩
    have is := zx_isM (sw := sw) (kc := 24) (kv := 26) M3 o2 o3 (by decide) rfl
    rw [is, Option.bind_some, if_pos zE_10]
    dsimp only
    unfold zx_cd
    by_cases c : zt_K T n x.1 = 24
    · rw [decide_eq_true c, if_neg (show ¬ zr_b true = 0 by decide), if_pos c]
      rcases zx_onM (sw := sw) M3 o2 o3 with ⟨c2, I1, q1, q2⟩ | ⟨c2, I1, q1, q2⟩
      · rw [q1, Option.bind_some, if_pos c2]
        have tk := zm_T_on (sw := sw) (zx_T0 M3) c2
        obtain ⟨I1', n1, n2⟩ := tk
        have e1 : I1' = I1 := by rw [q1] at n1; cases n1; rfl
        subst e1
        have fa : ∀ a, a ≠ 148 → I1' a = L a := n2.1
        exact zx_condM (sw := sw) (k := k) (f := m) (e := x.2) (v2 := 1) (Q2 := fun ls => zx_qp σ.2.1 x.2 ls) q2 ((n2.2.2.2.2 44 (by decide) (by decide) (by decide)).trans l44) ((n2.2.2.2.2 37 (by decide) (by decide) (by decide)).trans l37) (by omega) (by omega) d5 (by omega) (by omega) (zp_go o3 (by omega) (by omega)) k16 hn (by rw [fa 169 (by decide)]; exact l169) (by rw [fa 170 (by decide)]; exact l170) d3 (Nat.le_refl _) (by rw [fa 179 (by decide), fa 180 (by decide)]; exact lsg) (by rw [fa 171 (by decide)]; exact l171) hnew (fun ls => Or.inr ⟨rfl, rfl, rfl⟩)
      · rw [q1, Option.bind_some, if_neg c2]
        exact zx_74F q2 k16 (Or.inr rfl)
    · rw [decide_eq_false c, if_pos (show zr_b false = 0 from rfl), if_neg c]
      unfold j_X11_tellRule_74
      rw [show zw_it (s_X11_tellRule_77 148 (nI (16 * zq_lv b + k)) 1 (zE_R sw) J) 1000000 (zr_b false, 1, L) = some L from zm_s77 999999, Option.bind_some]
      exact zx_133M (sw := sw) (f := m) (l0 := l) (e := x.2) (ls := []) (Q2 := zx_qp σ.2.1 x.2 []) M3 l44 l37 (by omega) (by omega) o2 o3 k16 hn ⟨l169, l170, ⟨d3, Nat.le_refl _⟩, lsg, l171, rfl, fun _ _ => trivial⟩ (hnew []) (Or.inr ⟨rfl, rfl, rfl⟩)
