/-! ===== a GRADE, a PRICE, as the class reads them ===== -/
/-- the semicolon -/
theorem zx_semiC {sw b : Bool} {I : zI} {J : zJ} {T : Nat → Nat} {n t : Nat} {σ : zx_S} (hK : zx_B σ) (h : zx_C b T n I J t σ) (ht : t ≤ 500) (hg : zt_go T n t) : ∃ v I2, f_X3_take 7 2 5 1 I (zE_R sw) = some (v, I2) ∧ zx_RC b T n I2 J (zx_need (zt_K T n) 5 t (.inl (t + 1, σ))) := by
  unfold zx_need
  rcases zx_takeC (sw := sw) (k := 5) (kv := 5) (rv := 1) (rm := true) hK h ht hg (by decide) rfl rfl with ⟨t1, -, t3, I1, t4, t5⟩ | ⟨t2, I1, t4, t5, -⟩
  · exact ⟨1, I1, t4, by rw [if_pos ⟨t1, t3⟩]; exact t5⟩
  · exact ⟨0, I1, t4, by rw [if_neg (fun r => t2 ⟨r.1, rfl, r.2⟩)]; exact t5⟩
theorem zx_ruleC {b : Bool} {T : Nat → Nat} {n : Nat} {I I5 : zI} {J : zJ} {t x k cl : Nat} {σ : zx_S} {Q2 : zr_Q} {e : List zr_C} {ls : List zr_L} (hK : zx_B σ) (h : zx_C b T n I J t σ) (ht : t ≤ 500) (hcl : I (zE_h b) 14 = nI cl) (hcl5 : cl ≤ 500) (hk : k < 16) (hnew : ∀ k2, zr_has Q2 k2 → (k2 = k ∧ Q2.2.2.1 k2 = e ∧ Q2.2.2.2 k2 = ls) ∨ (k2 ≠ k ∧ zr_has σ.2.1 k2 ∧ Q2.2.2.1 k2 = σ.2.1.2.2.1 k2 ∧ Q2.2.2.2 k2 = σ.2.1.2.2.2 k2)) (f : ∀ a, a ≠ 7 → a ≠ zE_h b → a ≠ zE_h b + 7 → a ≠ zE_h b + 8 → a ≠ zE_h b + (41 + k) → I5 a = I a) (f7 : zx_7 I5 x σ.2.2.2) (fh : ∀ y, y ≠ 14 → y ≠ 7 → y ≠ 9 → I5 (zE_h b) y = I (zE_h b) y) (c7 : I5 (zE_h b) 7 = nI Q2.1) (c9 : I5 (zE_h b) 9 = nI Q2.2.1) (c14 : I5 (zE_h b) 14 = nI (cl + e.length + (zr_cc ls).length)) (fc : ∀ i, i < cl → I5 (zE_h b + 7) i = I (zE_h b + 7) i ∧ I5 (zE_h b + 8) i = I (zE_h b + 8) i) (sg : zr_sg (I5 (zE_h b + 7)) (I5 (zE_h b + 8)) cl (e.map zr_ck ++ zr_cc ls)) (r0 : I5 (zE_h b + (41 + k)) 0 = nI cl) (r1 : I5 (zE_h b + (41 + k)) 1 = nI (cl + e.length)) (r2 : I5 (zE_h b + (41 + k)) 2 = nI (cl + e.length + (zr_cc ls).length)) (hx : cl + e.length + (zr_cc ls).length ≤ x) : zx_C b T n I5 J x (σ.1, Q2, σ.2.2.1, σ.2.2.2) := by
  have hb := zE_hb b
  obtain ⟨a1, a2, a3, a4, a5, a6, a7, a8, a9, cl2, a10, a11, a12⟩ := h
  have ecl : cl2 = cl := (nI_eq (by omega) (by omega)).mp (a11.symm.trans hcl)
  subst ecl
  have lm : (e.map zr_ck).length = e.length := List.length_map ..
  refine ⟨f7, zp_X_tr a2 (f 4 (by omega) (by omega) (by omega) (by omega) (by omega)) (f 5 (by omega) (by omega) (by omega) (by omega) (by omega)) rfl, zt_TC_tr a3 (f 2 (by omega) (by omega) (by omega) (by omega) (by omega)) (f 3 (by omega) (by omega) (by omega) (by omega) (by omega)), zx_NC_tr a4 (fh 11 (by decide) (by decide) (by decide)), (fh 1 (by decide) (by decide) (by decide)).trans a5, (fh 3 (by decide) (by decide) (by decide)).trans a6, (fh 5 (by decide) (by decide) (by decide)).trans a7, c7, c9, _, hx, c14, fun h0 => ?_⟩
  obtain ⟨k1, k2, k3, k4, k5⟩ := hK
  obtain ⟨d1, d2⟩ := a12 h0
  refine ⟨?_, fun j hj => ?_⟩
  · have x1 := fh 1 (by decide) (by decide) (by decide)
    have x3 := fh 3 (by decide) (by decide) (by decide)
    have x5 := fh 5 (by decide) (by decide) (by decide)
    -- the names and the code lie among the first eight cells
    obtain ⟨e1, e2, e3, e4, e5⟩ := d1
    refine ⟨x1.trans e1, x3.trans e2, x5.trans e3, fun j hj => ?_, fun j hj hz => ?_⟩
    · have hj : j < σ.1.ns := hj
      have y1 : I5 (zE_h b + (10 + 3 * j)) = I (zE_h b + (10 + 3 * j)) := f _ (by omega) (by omega) (by omega) (by omega) (by omega)
      have y2 : I5 (zE_h b + (11 + 3 * j)) = I (zE_h b + (11 + 3 * j)) := f _ (by omega) (by omega) (by omega) (by omega) (by omega)
      have y3 : I5 (zE_h b + (9 + 3 * j)) = I (zE_h b + (9 + 3 * j)) := f _ (by omega) (by omega) (by omega) (by omega) (by omega)
      rw [y1, y2, y3]
      exact e4 j hj
    · have hj : σ.1.has j := hj
      have h10 := zx_has10 k2 k3 hj
      have y1 : I5 (zE_h b + (21 + 2 * j)) = I (zE_h b + (21 + 2 * j)) := f _ (by omega) (by omega) (by omega) (by omega) (by omega)
      refine ⟨zq_DC_tr (e5 j hj hz).1 y1 (f _ (by omega) (by omega) (by omega) (by omega) (by omega)), ?_⟩
      have h6 := (e5 j hj hz).2
      unfold zq_DX at h6 ⊢
      rw [y1]
      exact h6
  · rcases hnew j hj with ⟨z1, z2, z3⟩ | ⟨z1, z2, z3, z4⟩
    · subst z1
      have z2 : Q2.2.2.1 j = e := z2
      have z3 : Q2.2.2.2 j = ls := z3
      show zr_RC b I5 (zE_h b + (41 + j)) _ (Q2.2.2.1 j) (Q2.2.2.2 j)
      rw [z2, z3]
      rw [zr_sg_app] at sg
      exact ⟨cl2, cl2 + e.length, cl2 + e.length + (zr_cc ls).length, r0, r1, r2, rfl, rfl, Nat.le_refl _, sg.1, by have := sg.2; rw [lm] at this; exact this⟩
    · show zr_RC b I5 (zE_h b + (41 + j)) _ (Q2.2.2.1 j) (Q2.2.2.2 j)
      rw [z3, z4]
      have j16 := zx_has16 k4 k5 z2
      exact zx_RC_tr (d2 j z2) (f _ (by omega) (by omega) (by omega) (by omega) (by omega)) fc (by omega)
/-- a GRADE behind its 'if' -/
def zx_gr (R : zR) (h : Nat) (I : zI) (J : zJ) : Option (zI × zJ) := (f_X1_addGrade h I R).bind fun q11 => (zw_g (zw_gc q11.1 5) ((f_X5_begin q11.1 (q11.2 h 14) q11.2).bind fun q13 => ((f_X3_readCondition 7 2 q13 R J).bind fun q14 => (zw_let (zw_u q14 q11.1 2 (q14 h 14) : zI) fun I15 => ((f_X3_take 7 2 5 1 I15 R).bind fun q16 => (some (q16.2, J)))))))
theorem zx_grF {sw b : Bool} {I : zI} {J : zJ} {T : Nat → Nat} {n f e k : Nat} (hr : zE_R sw 7 2 = zE_h b) (h : zx_FF b T n I f e) (h7 : I (zE_h b) 7 = nI k) (hk : k < 8) : ∃ I2, zx_gr (zE_R sw) (zE_h b) I J = some (I2, J) ∧ zx_FF b T n I2 f e := by
  have hb := zE_hb b
  unfold zx_gr
  rw [zc_addGrade h7 hk, Option.bind_some]
  dsimp only
  rw [(zE_sHru b k (by omega)).2, zw_g_t, zc_begin (by omega) _, Option.bind_some]
  have F1 := (((h.u (o := zE_h b) (j := 7) (nI (k + 1)) (by omega) (by omega)).u (o := zE_h b + (41 + k)) (j := 0) (zw_u I (zE_h b) 7 (nI (k + 1)) (zE_h b) 14) (by omega) (by omega)).u (o := zE_h b + (41 + k)) (j := 1) (zw_u I (zE_h b) 7 (nI (k + 1)) (zE_h b) 14) (by omega) (by omega)).u (o := zE_h b + (41 + k)) (j := 2) (zw_u I (zE_h b) 7 (nI (k + 1)) (zE_h b) 14) (by omega) (by omega)
  obtain ⟨I2, q1, q2⟩ := zc_conditionF (sw := sw) (J := J) hr F1.c
  have F3 := q2.ff.u (o := zE_h b + (41 + k)) (j := 2) (I2 (zE_h b) 14) (by omega) (by omega)
  refine ⟨_, ?_, F3⟩
  rw [q1, Option.bind_some, zw_let_e, zp_takeF F3.ne, Option.bind_some]
theorem zx_grC {sw b : Bool} {I : zI} {J : zJ} {T : Nat → Nat} {n t : Nat} {σ : zx_S} (hr : zE_R sw 7 2 = zE_h b) (hK : zx_B σ) (h : zx_C b T n I J t σ) (h8 : σ.2.1.1 < 8) (h1 : 1 ≤ t) (ht : t ≤ 500) (hg : zt_go T n t) : ∃ I2, zx_gr (zE_R sw) (zE_h b) I J = some (I2, J) ∧ zx_RC b T n I2 J (match zp_Cn (zt_K T n) (zp_V T n) 502 t true with
    | .inr y => .inr y
    | .inl x => zx_need (zt_K T n) 5 x.1 (.inl (x.1 + 1, (σ.1, zx_qg σ.2.1 x.2, σ.2.2.1, σ.2.2.2)))) := by
  have hb := zE_hb b
  obtain ⟨⟨b0, b3, b4, b5⟩, a2, a3, a4, a5, a6, a7, a8, a9, cl, a10, a11, a12⟩ := id h
  obtain ⟨k, ek⟩ : ∃ k, k = σ.2.1.1 := ⟨_, rfl⟩
  rw [← ek] at a8 h8
  unfold zx_gr
  rw [zc_addGrade a8 h8, Option.bind_some]
  dsimp only
  have w14 : zw_u I (zE_h b) 7 (nI (k + 1)) (zE_h b) 14 = nI cl := by rw [zE_u2 _ _ (by omega)]; exact a11
  rw [(zE_sHru b k (by omega)).2, zw_g_t, w14, zc_begin (by omega) _, Option.bind_some]
  obtain ⟨K2, eK⟩ : ∃ K2, K2 = zw_u (zw_u (zw_u (zw_u I (zE_h b) 7 (nI (k + 1))) (zE_h b + (41 + k)) 0 (nI cl)) (zE_h b + (41 + k)) 1 (nI cl)) (zE_h b + (41 + k)) 2 (nI cl) := ⟨_, rfl⟩
  rw [← eK]
  have fK : ∀ a, a ≠ zE_h b → a ≠ zE_h b + (41 + k) → K2 a = I a := fun a x1 x2 => by rw [eK, zw_u_off _ _ _ x2, zw_u_off _ _ _ x2, zw_u_off _ _ _ x2, zw_u_off _ _ _ x1]
  have fKh : ∀ y, y ≠ 7 → K2 (zE_h b) y = I (zE_h b) y := fun y hy => by rw [eK, zw_u_off _ _ _ (by omega), zw_u_off _ _ _ (by omega), zw_u_off _ _ _ (by omega), zE_u2 _ _ (by omega)]
  have K7 : K2 7 = I 7 := fK 7 (by omega) (by omega)
  have hX2 : zp_X T n K2 J := zp_X_tr a2 (fK 4 (by omega) (by omega)) (fK 5 (by omega) (by omega)) rfl
  have E0 : zc_E b K2 K2 cl t [] := ⟨fun _ _ _ _ _ => rfl, by rw [K7]; exact b0, by rw [K7]; exact b3, fun _ _ => rfl, by rw [fKh 14 (by decide), a11]; rfl, fun _ _ => rfl, trivial, fun _ _ => ⟨rfl, rfl⟩⟩
  obtain ⟨K3, q1, q2⟩ := zc_condition (sw := sw) hr hX2 E0 h1 ht hg (by show cl + 0 ≤ t; omega)
  rw [q1, Option.bind_some, zw_let_e]
  have co := zx_Cn_ok (T := T) (n := n) 502 t true ht hg
  cases hC : zp_Cn (zt_K T n) (zp_V T n) 502 t true with
  | inr y =>
    rw [hC] at q2
    have q2 : zc_F b T n K2 K3 y.1 y.2 := q2
    have F3 := q2.ff.u (o := zE_h b + (41 + k)) (j := 2) (K3 (zE_h b) 14) (by omega) (by omega)
    refine ⟨_, ?_, F3⟩
    rw [zp_takeF F3.ne, Option.bind_some]
  | inl x =>
    rw [hC] at q2 co
    obtain ⟨o1, o2, o3, o4, r, rs, o5⟩ := co
    obtain ⟨⟨e1, e2, e3, e4, e5, e6, e7, e8⟩, -, -, u3⟩ := q2
    have ln : ([] ++ zr_cc x.2 : List zr_C).length = (zr_cc x.2).length := rfl
    rw [ln] at e5 u3
    have M : zx_C b T n (zw_u K3 (zE_h b + (41 + k)) 2 (K3 (zE_h b) 14)) J x.1 (σ.1, zx_qg σ.2.1 x.2, σ.2.2.1, σ.2.2.2) := by
      refine zx_ruleC (k := k) (e := []) (ls := x.2) hK h ht a11 (by omega) (by omega) (fun j hj => ?_) (fun a x1 x2 x3 x4 x5 => ?_) ⟨?_, ?_, ?_, ?_⟩ (fun y y1 y2 y3 => ?_) ?_ ?_ ?_ (fun i hi => ?_) ?_ ?_ ?_ ?_ ?_
      · have hj : j < σ.2.1.1 + 1 ∨ (8 ≤ j ∧ j < 8 + σ.2.1.2.1) := hj
        show (j = k ∧ zx_up σ.2.1.2.2.1 σ.2.1.1 [] j = [] ∧ zx_up σ.2.1.2.2.2 σ.2.1.1 x.2 j = x.2) ∨ (j ≠ k ∧ zr_has σ.2.1 j ∧ zx_up σ.2.1.2.2.1 σ.2.1.1 [] j = σ.2.1.2.2.1 j ∧ zx_up σ.2.1.2.2.2 σ.2.1.1 x.2 j = σ.2.1.2.2.2 j)
        by_cases c : j = k
        · refine Or.inl ⟨c, ?_, ?_⟩
          · rw [c, ek, zx_up1]
          · rw [c, ek, zx_up1]
        · exact Or.inr ⟨c, by unfold zr_has; omega, zx_up2 _ _ (by omega), zx_up2 _ _ (by omega)⟩
      · rw [zw_u_off _ _ _ x5, e1 a x1 x2 x3 x4, fK a x2 x5]
      · rw [zw_u_off _ _ _ (by omega)]; exact e2
      · rw [zw_u_off _ _ _ (by omega)]; exact e3
      · rw [zw_u_off _ _ _ (by omega), e4 4 (by decide), K7]; exact b4
      · rw [zw_u_off _ _ _ (by omega), e4 5 (by decide), K7]; exact b5
      · rw [zw_u_off _ _ _ (by omega), e6 y y1, fKh y y2]
      · show zw_u K3 (zE_h b + (41 + k)) 2 (K3 (zE_h b) 14) (zE_h b) 7 = nI (σ.2.1.1 + 1)
        rw [zw_u_off _ _ _ (by omega), e6 7 (by decide), eK, zw_u_off _ _ _ (by omega), zw_u_off _ _ _ (by omega), zw_u_off _ _ _ (by omega), zE_u1, ek]
      · show zw_u K3 (zE_h b + (41 + k)) 2 (K3 (zE_h b) 14) (zE_h b) 9 = nI σ.2.1.2.1
        rw [zw_u_off _ _ _ (by omega), e6 9 (by decide), fKh 9 (by decide)]; exact a9
      · rw [zw_u_off _ _ _ (by omega), e5]; rfl
      · rw [zw_u_off _ _ _ (by omega), zw_u_off _ _ _ (by omega), (e8 i hi).1, (e8 i hi).2, fK _ (by omega) (by omega), fK _ (by omega) (by omega)]
        exact ⟨rfl, rfl⟩
      · rw [zw_u_off _ _ _ (by omega), zw_u_off _ _ _ (by omega)]; exact e7
      · rw [zE_u2 _ _ (by omega), e1 _ (by omega) (by omega) (by omega) (by omega), eK, zE_u2 _ _ (by omega), zE_u2 _ _ (by omega), zE_u1]
      · rw [zE_u2 _ _ (by omega), e1 _ (by omega) (by omega) (by omega) (by omega), eK, zE_u2 _ _ (by omega), zE_u1]; rfl
      · rw [zE_u1, e5]; rfl
      · exact u3
    obtain ⟨v, I5, s1, s2⟩ := zx_semiC (sw := sw) (⟨hK.1, hK.2.1, hK.2.2.1, by show σ.2.1.1 + 1 ≤ 8; omega, hK.2.2.2.2⟩ : zx_B (σ.1, zx_qg σ.2.1 x.2, σ.2.2.1, σ.2.2.2)) M o2 o3
    exact ⟨I5, by rw [s1, Option.bind_some], s2⟩
theorem zx_gradeC {sw b : Bool} {I : zI} {J : zJ} {T : Nat → Nat} {n t : Nat} {σ : zx_S} (hr : zE_R sw 7 2 = zE_h b) (hP : zx_P T n t σ) (h : zx_C b T n I J t σ) (hk : zt_K T n t = 21) : ∃ I2 J2, f_X3_readGrade 7 2 I (zE_R sw) J = some (I2, J2) ∧ zx_RC b T n I2 J2 (zx_grade T n t σ) := by
  have hb := zE_hb b
  have g7 : zw_gc 7 3 = true := by simp only [zE_gC]
  have gh := (zE_gH b).1
  obtain ⟨p1, p2, p3, p4, p5, p6, p7, p8, p9, p10, -⟩ := id hP
  have hB : zx_B σ := ⟨p3, p4, p5, p6, p7⟩
  have a8 := h.2.2.2.2.2.2.2.1
  have hd : f_X3_readGrade 7 2 I (zE_R sw) J = (f_X3_take 7 2 21 (zr_b (decide (σ.2.1.1 < 8))) I (zE_R sw)).bind fun q5 => (if ¬ q5.1 = 0 then ((f_X3_takeName 7 2 q5.2 (zE_R sw) J).bind fun q8 => ((f_X3_take 7 2 24 1 q8.1 (zE_R sw)).bind fun q9 => zx_gr (zE_R sw) (zE_h b) q9.2 q8.2)) else some (q5.2, J)) := by
    unfold f_X3_readGrade j_X3_readGrade_21 zx_gr
    simp only [g7, zw_g_t, hr, gh, a8]
    by_cases c : σ.2.1.1 < 8
    · rw [if_neg (show ¬ (8 : Int32) ≤ nI σ.2.1.1 from nI_ge (b := 8) c (by decide)), decide_eq_true c]; rfl
    · rw [if_pos (show (8 : Int32) ≤ nI σ.2.1.1 from nI_le (a := 8) (by omega) (by omega)), decide_eq_false c]; rfl
  rw [hd]
  unfold zx_grade
  rcases zx_takeC (sw := sw) (k := 21) (kv := 21) (rv := zr_b (decide (σ.2.1.1 < 8))) (rm := decide (σ.2.1.1 < 8)) hB h p1 p2 (by decide) rfl rfl with ⟨-, t2, t3, I1, t4, t5⟩ | ⟨t2, I1, t4, t5, -⟩
  · have c8 : σ.2.1.1 < 8 := of_decide_eq_true t2
    rw [t4, Option.bind_some, if_pos (show σ.2.1.1 < 8 ∧ t < 500 from ⟨c8, t3⟩)]
    dsimp only
    rw [if_pos zE_10]
    have g1 : zt_go T n (t + 1) := zp_go p2 (by omega) (by omega)
    unfold zx_need
    rcases zx_nameC (sw := sw) hr hB p9 (by omega) (zx_qk_up p10 (show t ≤ t + 1 by omega)) t5 (by omega) g1 with ⟨m1, m2, I2, J2, m3, m4⟩ | ⟨m1, I2, m3, m4, m5⟩
    · have g2 : zt_go T n (t + 2) := zp_go g1 (by omega) (by omega)
      have hB2 : zx_B (σ.1, σ.2.1, (t + 1) :: σ.2.2.1, zx_qn T n σ.2.2.1 σ.2.2.2 (t + 1)) := hB
      rw [m3, Option.bind_some, if_pos (show zt_K T n (t + 1) = 2 ∧ t + 1 < 500 from ⟨m1, m2⟩)]
      dsimp only
      rcases zx_takeC (sw := sw) (k := 24) (kv := 24) (rv := 1) (rm := true) hB2 m4 (by omega) g2 (by decide) rfl rfl with ⟨k1, -, k3, I3, k4, k5⟩ | ⟨k2, I3, k4, k5, k6⟩
      · have k1 : zt_K T n (t + 2) = 24 := k1
        have g3 : zt_go T n (t + 3) := zp_go g2 (by omega) (by omega)
        rw [k4, Option.bind_some, if_pos (show zt_K T n (t + 2) = 24 ∧ t + 2 < 500 from ⟨k1, k3⟩)]
        obtain ⟨I4, r1, r2⟩ := zx_grC (sw := sw) hr hB2 k5 c8 (by omega) (by omega) g3
        exact ⟨I4, J2, r1, r2⟩
      · rw [k4, Option.bind_some, if_neg (show ¬ (zt_K T n (t + 2) = 24 ∧ t + 2 < 500) from fun r => k2 ⟨r.1, rfl, r.2⟩)]
        have e7 : I3 (zE_h b) 7 = nI σ.2.1.1 := by rw [k6 _ (by omega)]; exact m4.2.2.2.2.2.2.2.1
        obtain ⟨I4, r1, r2⟩ := zx_grF (sw := sw) (J := J2) hr k5 e7 c8
        exact ⟨I4, J2, r1, r2⟩
    · rw [m3, Option.bind_some, if_neg m1]
      dsimp only
      rw [zp_takeF m4.ne, Option.bind_some]
      have e7 : I2 (zE_h b) 7 = nI σ.2.1.1 := by rw [m5 _ (by omega)]; exact t5.2.2.2.2.2.2.2.1
      obtain ⟨I4, r1, r2⟩ := zx_grF (sw := sw) (J := J) hr m4 e7 c8
      exact ⟨I4, J, r1, r2⟩
  · rw [t4, Option.bind_some]
    dsimp only
    rw [if_neg (fun r => r rfl)]
    have c : ¬ (σ.2.1.1 < 8 ∧ t < 500) := fun r => t2 ⟨hk, decide_eq_true r.1, r.2⟩
    rw [if_pos hk] at t5
    rw [if_neg c]
    exact ⟨I1, J, rfl, t5⟩
