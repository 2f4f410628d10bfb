/-! ===== shine ===== -/
theorem zq_lampIn (v : Int32) : (f_X10_isLamp v = some 0 ∧ f_X11_in v 0 100000 = some 0) ∨ ∃ a, a ≤ 100000 ∧ v = nI a ∧ f_X10_isLamp v = some 1 ∧ f_X11_in v 0 100000 = some 1 := by
  unfold f_X10_isLamp f_X11_in
  by_cases h1 : v < 0
  · exact Or.inl ⟨if_pos h1, if_pos h1⟩
  · rw [if_neg h1]
    by_cases h2 : 100000 < v
    · exact Or.inl ⟨if_pos h2, if_pos h2⟩
    · obtain ⟨j, hj, rfl⟩ := nI_of h1
      have h3 : j ≤ 100000 := by
        by_cases q : j ≤ 100000
        · exact q
        · exact absurd (show nI 100000 < nI j from nI_lt (by omega) hj) h2
      exact Or.inr ⟨j, h3, rfl, if_neg h2, if_neg h2⟩
def zq_oShine (I2 I : zI) : Prop := (∀ a, a ≠ 1 → (a < 126 ∨ 131 < a) → a ≠ 148 → a ≠ 182 → (a < 184 ∨ 186 < a) → (a < 189 ∨ 191 < a) → I2 a = I a) ∧ (∀ y, y ≠ 6 → I2 1 y = I 1 y) ∧ ∀ y, (y < 54 ∨ 59 < y) → y ≠ 65 → y ≠ 66 → I2 148 y = I 148 y
theorem zq_oShine_r (I : zI) : zq_oShine I I := ⟨fun _ _ _ _ _ _ _ => rfl, fun _ _ => rfl, fun _ _ _ _ => rfl⟩
theorem zq_shineE {b : Bool} {I : zI} {H : zq_H} (hK : zq_HK H) (hC : zq_HC b I H) (hM : zq_HM b I H) (v1 v2 v3 v4 v5 v6 v7 v8 : Int32) : ∃ r I1 I2, f_X10_shine 1 v1 v2 v3 v4 v5 v6 v7 v8 I (zE_R b) = some (r, I1) ∧ f_X11_shine 148 v1 v2 v3 v4 v5 v6 v7 v8 I1 (zE_R b) = some (r, I2) ∧ (zE_S I → zE_S I2) ∧ zq_oShine I2 I := by
  have hb : 8 ≤ zE_h b ∧ zE_h b ≤ 65 := by cases b <;> decide
  have hl := zq_lv1 b
  have k1 := hK.1
  have k2 := hK.2.1
  unfold f_X10_shine f_X11_shine
  simp only [zE_gC, zE_gM, zw_g_t]
  obtain ⟨qa, hqa⟩ := (zq_rowAny hK hM v2).2.2
  rcases zq_isCut hK hC v1 with ⟨c1, c2⟩ | ⟨k, hk, rfl, c2⟩
  · rw [c2]
    refine ⟨-1, I, I, rfl, ?_, id, zq_oShine_r I⟩
    rw [(zq_cutRow hK hM v1).1 c1, hqa]
    rfl
  rw [c2, Option.bind_some, if_neg zE_10]
  rcases zq_isStuff hK hC v2 with ⟨s1, s2⟩ | ⟨q, hq, rfl, s2⟩
  · rw [s2]
    refine ⟨-1, I, I, rfl, ?_, id, zq_oShine_r I⟩
    rw [(zq_cutRow hK hM _).2 k hk rfl, (zq_stuffRow hK hM v2).1 s1]
    simp only [Option.bind_some, if_neg (zq_nm1 (n := 10 * zq_lv b + k) (by omega))]
    rfl
  rw [s2, Option.bind_some, if_neg zE_10]
  rcases zq_col v3 with ⟨-, t1, t2⟩ | ⟨c, hc, rfl, t1, t2⟩
  · rw [t1]
    refine ⟨-1, I, I, rfl, ?_, id, zq_oShine_r I⟩
    rw [(zq_cutRow hK hM _).2 k hk rfl, (zq_stuffRow hK hM _).2 q hq rfl, t2]
    simp only [Option.bind_some, if_neg (zq_nm1 (n := 10 * zq_lv b + k) (by omega)), if_neg (zq_nm1 (n := 4 * zq_lv b + q) (by omega))]
    rfl
  rw [t1, Option.bind_some, if_pos zE_10]
  have mno : ∀ X : Int32 → Option (Int32 × zI), ((f_X11_cutRow 148 (nI k) I (zE_R b)).bind fun q2 => ((f_X11_stuffRow 148 (nI q) I (zE_R b)).bind fun q3 => (if q2 = (-1) then some ((-1), I) else if q3 = (-1) then some ((-1), I) else (f_X11_isColour (nI c)).bind X))) = X 1 := by
    intro X
    rw [(zq_cutRow hK hM _).2 k hk rfl, (zq_stuffRow hK hM _).2 q hq rfl, t2]
    simp only [Option.bind_some, if_neg (zq_nm1 (n := 10 * zq_lv b + k) (by omega)), if_neg (zq_nm1 (n := 4 * zq_lv b + q) (by omega))]
  rcases zq_lampIn v4 with ⟨p1, p2⟩ | ⟨ab, hab, rfl, p1, p2⟩
  · rw [p1]
    refine ⟨-1, I, I, rfl, ?_, id, zq_oShine_r I⟩
    rw [(zq_cutRow hK hM _).2 k hk rfl, (zq_stuffRow hK hM _).2 q hq rfl, t2, p2]
    simp only [Option.bind_some, if_neg (zq_nm1 (n := 10 * zq_lv b + k) (by omega)), if_neg (zq_nm1 (n := 4 * zq_lv b + q) (by omega))]
    rfl
  rw [p1, Option.bind_some, if_neg zE_10]
  rcases zq_lampIn v5 with ⟨p3, p4⟩ | ⟨le, hle, rfl, p3, p4⟩
  · rw [p3]
    refine ⟨-1, I, I, rfl, ?_, id, zq_oShine_r I⟩
    rw [(zq_cutRow hK hM _).2 k hk rfl, (zq_stuffRow hK hM _).2 q hq rfl, t2, p2, p4]
    simp only [Option.bind_some, if_neg (zq_nm1 (n := 10 * zq_lv b + k) (by omega)), if_neg (zq_nm1 (n := 4 * zq_lv b + q) (by omega))]
    rfl
  rw [p3, Option.bind_some, if_neg zE_10]
  rcases zq_lampIn v6 with ⟨p5, p6⟩ | ⟨ri, hri, rfl, p5, p6⟩
  · rw [p5]
    refine ⟨-1, I, I, rfl, ?_, id, zq_oShine_r I⟩
    rw [(zq_cutRow hK hM _).2 k hk rfl, (zq_stuffRow hK hM _).2 q hq rfl, t2, p2, p4, p6]
    simp only [Option.bind_some, if_neg (zq_nm1 (n := 10 * zq_lv b + k) (by omega)), if_neg (zq_nm1 (n := 4 * zq_lv b + q) (by omega))]
    rfl
  rw [p5, Option.bind_some, if_pos zE_10]
  clear mno
  have ok := hK.2.2.2.2 k (Or.inl hk)
  have w2 := ok.w2
  obtain ⟨dc, dx⟩ := hC.2.2.2.2 k (Or.inl hk)
  have hr := zq_drk b b k (by omega)
  have hs := zq_sfk b b q (by omega)
  have hst := (hC.2.2.2.1 q hq)
  have hKs := hK.2.2.2.1 q c
  -- the class: lamps and head are set, then all is lit
  obtain ⟨Il, hIl⟩ : ∃ Il, Il = zw_u (zw_u (zw_u (zw_u (zw_u I 126 5 (nI ab)) 126 6 (nI le)) 126 7 (nI ri)) 126 8 v7) 126 9 v8 := ⟨_, rfl⟩
  have il : ∀ a, a ≠ 126 → Il a = I a := fun a ha => by rw [hIl, zw_u_off _ _ _ ha, zw_u_off _ _ _ ha, zw_u_off _ _ _ ha, zw_u_off _ _ _ ha, zw_u_off _ _ _ ha]
  have l5 : Il 126 5 = nI ab ∧ Il 126 6 = nI le ∧ Il 126 7 = nI ri ∧ Il 126 8 = v7 ∧ Il 126 9 = v8 := by
    rw [hIl]
    refine ⟨?_, ?_, ?_, ?_, ?_⟩
    · rw [zE_u2 _ _ (by decide), zE_u2 _ _ (by decide), zE_u2 _ _ (by decide), zE_u2 _ _ (by decide), zE_u1]
    · rw [zE_u2 _ _ (by decide), zE_u2 _ _ (by decide), zE_u2 _ _ (by decide), zE_u1]
    · rw [zE_u2 _ _ (by decide), zE_u2 _ _ (by decide), zE_u1]
    · rw [zE_u2 _ _ (by decide), zE_u1]
    · rw [zE_u1]
  have e1 : Il (zE_h b + (9 + 3 * q) + 1) c = nI (H.fl q c) := by rw [il _ (by omega), ← (hst.1 c hc).1]; rw [show zE_h b + (9 + 3 * q) + 1 = zE_h b + (10 + 3 * q) by omega]
  have e2 : Il (zE_h b + (9 + 3 * q) + 2) c = nI (H.sl q c) := by rw [il _ (by omega), ← (hst.1 c hc).2]; rw [show zE_h b + (9 + 3 * q) + 2 = zE_h b + (11 + 3 * q) by omega]
  have e3 : Il (zE_h b + (9 + 3 * q)) 2 = nI (H.ea q) := by rw [il _ (by omega)]; exact hst.2
  have dcl : zq_DC Il (zE_h b + (21 + 2 * k)) (H.D k) := zq_DC_tr dc (il _ (by omega)) (il _ (by omega))
  have dxl : zq_DX Il (zE_h b + (21 + 2 * k)) (H.D k) := by unfold zq_DX; rw [il _ (by omega)]; exact dx
  obtain ⟨Ic, c3, c4, c5, c6, c7, c8, c9, c10⟩ := zq_lightUpC (sw := b) (zq_sn1 b) hr (by omega) hs (by omega) hc ok dcl dxl e1 e2 e3 l5.1 l5.2.1 l5.2.2.1 l5.2.2.2.1 l5.2.2.2.2
  have hB : zq_SB 10000000 (zq_shS (H.D k) (nI (H.fl q c)) (nI (H.sl q c)) (nI (H.ea q)) (nI ab) (nI le) (nI ri) v7 v8) := fun j hj => by
    obtain ⟨σ, h1, h2⟩ := zq_SB_sh (ab := ab) (le := le) (ri := ri) ok v7 v8 hKs.1 hKs.2.1 hKs.2.2 hab hle hri j hj
    exact ⟨σ, h1, by omega⟩
  obtain ⟨S, hS⟩ : ∃ S, S = zq_shS (H.D k) (nI (H.fl q c)) (nI (H.sl q c)) (nI (H.ea q)) (nI ab) (nI le) (nI ri) v7 v8 := ⟨_, rfl⟩
  rw [← hS] at hB c9 c10
  unfold f_X6_setLamps f_X6_setHead
  simp only [zE_gC, zE_rC b, zE_sC, zw_g_t, zw_let_e, Option.bind_some, ← hIl, zE_rh b, zE_gH b, zE_rH b b, zE_sH b, zE_cl (k := k) (by omega), zE_in (k := k) (n := 6) (by omega) (by decide), zE_rHc b b k (by omega), hr.1, zE_cl (k := q) (by omega), zE_in (k := q) (n := 4) (by omega) (by decide), zE_rHs b b q (by omega), hs.1, c3, show zw_in 0 9 = true from rfl, show Int32.toNatClampNeg 0 = 0 from rfl]
  have g1 : ∀ a, a ≠ 1 → (a < 126 ∨ 131 < a) → zw_u Ic 1 6 1 a = I a := fun a h1 h2 => by rw [zw_u_off _ _ _ h1, c4 a h2, il a (by omega)]
  have g2 : ∀ a, 2 ≤ a → zw_u Ic 1 6 1 a = Ic a := fun a h1 => zw_u_off _ _ _ (by omega)
  have hM1 : zq_HM b (zw_u Ic 1 6 1) H := zq_HM_tr hM (fun a h1 h2 => g1 a (by omega) (by omega)) (by rw [g1 148 (by decide) (by decide)])
  have dm := hM1.2.2.2.2.2 k (Or.inl hk)
  have hmst := hM1.2.2.2.2.1 q hq
  obtain ⟨Im, m1, m2, m3, m4, m5, m6, m7, m8, m9, m10, m11⟩ := zq_shinesM (sw := b) (k := 10 * zq_lv b + k) (q := 4 * zq_lv b + q) (c := c) (ab := nI ab) (le := nI le) (ri := nI ri) (a := v7) (b := v8) (by omega) (by omega) hc ok dm (hmst.1 c hc).1 (hmst.1 c hc).2 hmst.2 (by rw [← hS]; exact hB)
  rw [← hS] at m4 m5 m6 m7 m8 m10 m11
  -- the model's copies
  obtain ⟨G, hG⟩ : ∃ G, G = zw_u (zw_u Im 148 65 1) 148 66 (nI (H.D k).w) := ⟨_, rfl⟩
  have go : ∀ a, a ≠ 148 → G a = Im a := fun a ha => by rw [hG, zw_u_off _ _ _ ha, zw_u_off _ _ _ ha]
  have g148 : ∀ y, y ≠ 65 → y ≠ 66 → G 148 y = Im 148 y := fun y h1 h2 => by rw [hG, zE_u2 _ _ (by omega), zE_u2 _ _ (by omega)]
  have lp1 := zE_forE (step := s_X11_shine_109 148 (zE_R b)) (fun i => (nI i, zq_cp G 189 182 i)) (zq_cp G 189 182 8) 8 (fun i hi => by
    unfold s_X11_shine_109
    simp only [zE_gM, zE_rM b, zE_sM, zw_g_t, zw_let_e, zE_in (k := i) (n := 8) hi (by decide), zE_cl (k := i) (by omega), nI_1, zq_cp_s _ 189 182 i (by decide)]
    exact if_neg (nI_ge (b := 8) hi (by omega))) (by
    unfold s_X11_shine_109
    exact if_pos (show (8 : Int32) ≤ nI 8 by decide)) (by decide)
  rw [zq_cp_0] at lp1
  have lp1b : zw_it (s_X11_shine_109 148 (zE_R b)) 1000000 (0, G) = some (zq_cp G 189 182 8) := lp1
  have lp2 := zE_forE (step := s_X11_shine_139 148 (zE_R b)) (fun i => (nI i, zq_cp (zq_cp G 189 182 8) 191 185 i)) (zq_cp (zq_cp G 189 182 8) 191 185 12) 12 (fun i hi => by
    unfold s_X11_shine_139
    simp only [zE_gM, zE_rM b, zE_sM, zw_g_t, zw_let_e, zE_in (k := i) (n := 12) hi (by decide), zE_cl (k := i) (by omega), nI_1, zq_cp_s _ 191 185 i (by decide)]
    exact if_neg (nI_ge (b := 12) hi (by omega))) (by
    unfold s_X11_shine_139
    exact if_pos (show (12 : Int32) ≤ nI 12 by decide)) (by decide)
  rw [zq_cp_0] at lp2
  have lp2b : zw_it (s_X11_shine_139 148 (zE_R b)) 1000000 (0, zq_cp G 189 182 8) = some (zq_cp (zq_cp G 189 182 8) 191 185 12) := lp2
  obtain ⟨Q, hQ⟩ : ∃ Q, Q = zq_cp (zq_cp G 189 182 8) 191 185 12 := ⟨_, rfl⟩
  rw [← hQ] at lp2b
  have qo : ∀ a, a ≠ 189 → a ≠ 191 → Q a = G a := fun a h1 h2 => by rw [hQ, zq_cp_o h2, zq_cp_o h1]
  have q182 : ∀ j, j < 8 → Q 182 j = zq_var (H.D k) c S j := fun j hj => by rw [qo 182 (by decide) (by decide), go 182 (by decide)]; exact m11 j hj
  have q189 : ∀ j, j < 8 → Q 189 j = zq_var (H.D k) c S j := fun j hj => by rw [hQ, zq_cp_o (by decide), zq_cp_a hj, go 182 (by decide)]; exact m11 j hj
  have q191 : ∀ j, j < 12 → Q 191 j = S (8 + j) := fun j hj => by rw [hQ, zq_cp_a hj, zq_cp_o (by decide), go 185 (by decide)]; exact m10 j hj
  have q148 : ∀ y, y ≠ 65 → y ≠ 66 → Q 148 y = Im 148 y := fun y h1 h2 => by rw [qo 148 (by decide) (by decide)]; exact g148 y h1 h2
  have off : ∀ (F : zI) (k : Nat) (v : Int32) (a : Nat), a ≠ 190 → zw_u F 190 k v a = F a := fun F k v a ha => zw_u_off _ _ _ ha
  have d1 : zw_u Im 148 65 1 164 (10 * zq_lv b + k) = nI (H.D k).w := by rw [zw_u_off _ _ _ (by decide), m2 164 (by decide) (by decide) (by decide)]; exact dm.w
  refine ⟨_, _, zw_u (zw_u (zw_u (zw_u (zw_u (zw_u (zw_u (zw_u (zw_u Q 190 0 (S 0)) 190 1 (S 1 + S 2 + S 3)) 190 2 (nI (zq_dk (H.D k) S (zq_mx S (H.D k).w) (H.D k).w))) 190 3 (zq_un (H.D k) S ((H.D k).w / 2))) 190 4 (S 7)) 190 5 (S 4)) 190 6 (S 5)) 190 7 (S 6)) 190 8 (zq_gv (H.D k) (nI ab) (nI le) (nI ri) v7 v8), rfl, ?_, fun _ => Or.inr ⟨?_, ?_, (H.D k).w, w2, ?_, ?_, fun j hj => ?_, fun j hj => ?_, ?_⟩, fun a h1 h2 h3 h4 h5 h6 => ?_, fun y hy => ?_, fun y h1 h2 h3 => ?_⟩
  · rw [(zq_cutRow hK hM1 _).2 k hk rfl, (zq_stuffRow hK hM1 _).2 q hq rfl, t2, p2, p4, p6]
    simp only [Option.bind_some, if_neg (zq_nm1 (n := 10 * zq_lv b + k) (by omega)), if_neg (zq_nm1 (n := 4 * zq_lv b + q) (by omega)), if_neg zE_10, if_pos zE_10, m1, zE_gM, zE_rM b, zE_sM, zw_g_t, zw_let_e, zE_in (k := 10 * zq_lv b + k) (n := 20) (by omega) (by decide), zE_cl (k := 10 * zq_lv b + k) (by omega), d1, ← hG, lp1b, lp2b, show zw_in 0 8 = true from rfl, show zw_in 1 8 = true from rfl, show zw_in 2 8 = true from rfl, show zw_in 4 8 = true from rfl, show zw_in 0 9 = true from rfl, show zw_in 1 9 = true from rfl, show zw_in 2 9 = true from rfl, show zw_in 3 9 = true from rfl, show zw_in 4 9 = true from rfl, show zw_in 5 9 = true from rfl, show zw_in 6 9 = true from rfl, show zw_in 7 9 = true from rfl, show zw_in 8 9 = true from rfl, show Int32.toNatClampNeg 0 = 0 from rfl, show Int32.toNatClampNeg 1 = 1 from rfl, show Int32.toNatClampNeg 2 = 2 from rfl, show Int32.toNatClampNeg 3 = 3 from rfl, show Int32.toNatClampNeg 4 = 4 from rfl, show Int32.toNatClampNeg 5 = 5 from rfl, show Int32.toNatClampNeg 6 = 6 from rfl, show Int32.toNatClampNeg 7 = 7 from rfl, show Int32.toNatClampNeg 8 = 8 from rfl, off _ _ _ 182 (by decide), off _ _ _ 148 (by decide), q182 0 (by decide), q182 1 (by decide), q182 2 (by decide), q182 4 (by decide), q148 54 (by decide) (by decide), q148 55 (by decide) (by decide), q148 56 (by decide) (by decide), q148 58 (by decide) (by decide), q148 59 (by decide) (by decide), m5, m6, m7, m8, m9]
    rw [g2 127 (by decide), c10 0 (by decide)]
    rfl
  · simp only [off _ _ _ 1 (by decide)]
    rw [qo 1 (by decide) (by decide), go 1 (by decide), m2 1 (by decide) (by decide) (by decide), zE_u1]
  · simp only [off _ _ _ 148 (by decide)]
    rw [qo 148 (by decide) (by decide), hG, zE_u2 _ _ (by decide), zE_u1]
  · simp only [off _ _ _ 126 (by decide)]
    rw [qo 126 (by decide) (by decide), go 126 (by decide), m2 126 (by decide) (by decide) (by decide), g2 126 (by decide)]
    exact c5
  · simp only [off _ _ _ 148 (by decide)]
    rw [qo 148 (by decide) (by decide), hG, zE_u1]
  · simp only [off _ _ _ 131 (by decide), off _ _ _ 191 (by decide)]
    rw [qo 131 (by decide) (by decide), go 131 (by decide), m2 131 (by decide) (by decide) (by decide), g2 131 (by decide), q191 j (by omega)]
    exact c9 j (by omega)
  · simp only [off _ _ _ 127 (by decide)]
    rw [qo 127 (by decide) (by decide), go 127 (by decide), m2 127 (by decide) (by decide) (by decide), g2 127 (by decide)]
    rw [show Ic 127 j = _ from c10 j hj]
    unfold zq_vec
    by_cases c8 : j = 8
    · subst c8; rw [zE_u1]; rfl
    rw [zE_u2 _ _ (by omega)]
    by_cases c7 : j = 7
    · subst c7; rw [zE_u1]; rfl
    rw [zE_u2 _ _ (by omega)]
    by_cases c6 : j = 6
    · subst c6; rw [zE_u1]; rfl
    rw [zE_u2 _ _ (by omega)]
    by_cases c5 : j = 5
    · subst c5; rw [zE_u1]; rfl
    rw [zE_u2 _ _ (by omega)]
    by_cases c4 : j = 4
    · subst c4; rw [zE_u1]; rfl
    rw [zE_u2 _ _ (by omega)]
    by_cases c3 : j = 3
    · subst c3; rw [zE_u1]; rfl
    rw [zE_u2 _ _ (by omega)]
    by_cases c2 : j = 2
    · subst c2; rw [zE_u1]; rfl
    rw [zE_u2 _ _ (by omega)]
    by_cases c1 : j = 1
    · subst c1; rw [zE_u1]; rfl
    rw [zE_u2 _ _ (by omega)]
    obtain rfl : j = 0 := by omega
    rw [zE_u1]; rfl
  · simp only [off _ _ _ 189 (by decide), off _ _ _ 126 (by decide), q189 0 (by decide), q189 1 (by decide), q189 2 (by decide), q189 3 (by decide), q189 4 (by decide), q189 5 (by decide), q189 6 (by decide), q189 7 (by decide)]
    rw [qo 126 (by decide) (by decide), go 126 (by decide), m2 126 (by decide) (by decide) (by decide), g2 126 (by decide), c6, c7]
    refine ⟨?_, ?_, ?_, rfl, ?_, ?_, rfl, rfl⟩
    · rw [zE_u2 _ _ (by decide), zE_u2 _ _ (by decide), zE_u2 _ _ (by decide), zE_u2 _ _ (by decide), zE_u2 _ _ (by decide), zE_u2 _ _ (by decide), zE_u2 _ _ (by decide), zE_u2 _ _ (by decide), zE_u1]
      rfl
    · rw [zE_u2 _ _ (by decide), zE_u2 _ _ (by decide), zE_u2 _ _ (by decide), zE_u2 _ _ (by decide), zE_u2 _ _ (by decide), zE_u2 _ _ (by decide), zE_u2 _ _ (by decide), zE_u1]
      rfl
    · rw [zE_u2 _ _ (by decide), zE_u2 _ _ (by decide), zE_u2 _ _ (by decide), zE_u2 _ _ (by decide), zE_u2 _ _ (by decide), zE_u2 _ _ (by decide), zE_u1]
      rfl
    · rw [zE_u2 _ _ (by decide), zE_u2 _ _ (by decide), zE_u2 _ _ (by decide), zE_u2 _ _ (by decide), zE_u2 _ _ (by decide), zE_u1]
      rfl
    · rw [zE_u2 _ _ (by decide), zE_u2 _ _ (by decide), zE_u2 _ _ (by decide), zE_u2 _ _ (by decide), zE_u1]
      rfl
  · simp only [off _ _ _ a (show a ≠ 190 by omega)]
    rw [qo a (by omega) (by omega), go a h3, m2 a h3 h4 h5, g1 a h1 h2]
  · simp only [off _ _ _ 1 (by decide)]
    rw [qo 1 (by decide) (by decide), go 1 (by decide), m2 1 (by decide) (by decide) (by decide), zE_u2 _ _ (by omega), c4 1 (by decide), il 1 (by decide)]
  · simp only [off _ _ _ 148 (by decide)]
    rw [q148 y h2 h3, m3 y h1, g1 148 (by decide) (by decide)]
