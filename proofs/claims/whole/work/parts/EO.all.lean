/-! ===== all calls keep the relation ===== -/
theorem zX_mk {sw : Bool} {I I2 : zI} {J : zJ} {H : zq_H} {Q : zr_Q} {nt nt2 : Nat} (h : zX_C sw I J H Q nt) (hT : zE_T I2) (h7 : I2 7 = I 7) (h17 : I2 148 17 = I 148 17) (hY : zE_Y I2) (hS : zE_S I2) (hL : zE_L I2) (hTE : zq_TE I2 nt2 H) (hc : ∀ a, 8 ≤ a → a ≤ 121 → I2 a = I a) (hm : ∀ a, 156 ≤ a → a ≤ 180 → I2 a = I a) (h18 : I2 148 18 = I 148 18) (h16 : I2 148 16 = I 148 16) (hTL : zq_TL I2) (hCB : zq_CB I2 H) : zX_C sw I2 J H Q nt2 := by
  obtain ⟨a1, a2, a3, a4, a5, a6, a7, a8, a9, a10, a11, a12, a13, a14, a15, p, p1, p2⟩ := h
  exact ⟨hT, by rw [h7, h17]; exact a2, hY, hS, hL, hTE, a7, zq_HC_tr a7 a8 hc, zq_HM_tr a9 hm h18, a10, zr_QC_tr a10 a11 hc, zX_QM_tr a12 (fun a x1 x2 => hm a (by omega) x2), hTL, hCB, a15, p, p1, h16.trans p2⟩
theorem zX_feed : zE_feed zX_Rel := by
  rintro I R J a0 a1 a2 a3 a4 ⟨sw, H, Q, nt, hR, hC⟩
  have hR : R = zE_R sw := hR
  subst hR
  have hC : zX_C sw I J H Q nt := hC
  obtain ⟨b1, b2, b3, b4, b5, b6, b7, b8, b9, b10, b11, b12, b13, b14, b15, -⟩ := id hC
  obtain ⟨r, I1, I2, c1, c2, c3, c4, c5, c6⟩ := zE_feedE (sw := sw) b1 a0 a1 a2 a3 a4
  refine ⟨r, I1, I2, c1, c2, sw, H, Q, nt, rfl, (?_ : zX_C sw I2 J H Q nt)⟩
  have f : ∀ a, a ≠ 2 → a ≠ 3 → a ≠ 148 → a ≠ 149 → I2 a = I a := c4
  exact zX_mk hC c3 (f 7 (by decide) (by decide) (by decide) (by decide)) (c6 17 (by decide)) (zX_Y_tr b3 (by rw [f 1 (by decide) (by decide) (by decide) (by decide)]) (c6 61 (by decide)) (f 122 (by decide) (by decide) (by decide) (by decide)) (c6 62 (by decide)) (f 123 (by decide) (by decide) (by decide) (by decide)) (f 187 (by decide) (by decide) (by decide) (by decide)) (f 124 (by decide) (by decide) (by decide) (by decide)) (f 188 (by decide) (by decide) (by decide) (by decide))) (zX_S_tr b4 (by rw [f 1 (by decide) (by decide) (by decide) (by decide)]) (c6 65 (by decide)) (f 126 (by decide) (by decide) (by decide) (by decide)) (c6 66 (by decide)) (f 131 (by decide) (by decide) (by decide) (by decide)) (f 191 (by decide) (by decide) (by decide) (by decide)) (f 127 (by decide) (by decide) (by decide) (by decide)) (f 190 (by decide) (by decide) (by decide) (by decide)) (f 189 (by decide) (by decide) (by decide) (by decide))) (zX_L_tr b5 (c6 70 (by decide)) (f 141 (by decide) (by decide) (by decide) (by decide)) (f 192 (by decide) (by decide) (by decide) (by decide))) (zq_TE_tr b6 (fun a x1 x2 => f a (by omega) (by omega) (by omega) (by omega)) (fun a x1 x2 => f a (by omega) (by omega) (by omega) (by omega)) (c6 75 (by decide))) (fun a x1 x2 => f a (by omega) (by omega) (by omega) (by omega)) (fun a x1 x2 => f a (by omega) (by omega) (by omega) (by omega)) (c6 18 (by decide)) (c6 16 (by decide)) (zq_TL_tr b13 (f 132 (by decide) (by decide) (by decide) (by decide))) (zX_CB_tr b14 (f 147 (by decide) (by decide) (by decide) (by decide)))
theorem zX_back : zE_back zX_Rel := by
  rintro I R J a0 ⟨sw, H, Q, nt, hR, hC⟩
  have hR : R = zE_R sw := hR
  subst hR
  have hC : zX_C sw I J H Q nt := hC
  obtain ⟨b1, b2, b3, b4, b5, b6, b7, b8, b9, b10, b11, b12, b13, b14, b15, -⟩ := id hC
  obtain ⟨r, I1, I2, c1, c2, c3, c4, c5, c6⟩ := zE_backE (sw := sw) b1 a0
  refine ⟨r, I1, I2, c1, c2, sw, H, Q, nt, rfl, (?_ : zX_C sw I2 J H Q nt)⟩
  have f : ∀ a, a ≠ 2 → a ≠ 148 → I2 a = I a := c4
  exact zX_mk hC c3 (f 7 (by decide) (by decide)) (c6 17 (by decide)) (zX_Y_tr b3 (by rw [f 1 (by decide) (by decide)]) (c6 61 (by decide)) (f 122 (by decide) (by decide)) (c6 62 (by decide)) (f 123 (by decide) (by decide)) (f 187 (by decide) (by decide)) (f 124 (by decide) (by decide)) (f 188 (by decide) (by decide))) (zX_S_tr b4 (by rw [f 1 (by decide) (by decide)]) (c6 65 (by decide)) (f 126 (by decide) (by decide)) (c6 66 (by decide)) (f 131 (by decide) (by decide)) (f 191 (by decide) (by decide)) (f 127 (by decide) (by decide)) (f 190 (by decide) (by decide)) (f 189 (by decide) (by decide))) (zX_L_tr b5 (c6 70 (by decide)) (f 141 (by decide) (by decide)) (f 192 (by decide) (by decide))) (zq_TE_tr b6 (fun a x1 x2 => f a (by omega) (by omega)) (fun a x1 x2 => f a (by omega) (by omega)) (c6 75 (by decide))) (fun a x1 x2 => f a (by omega) (by omega)) (fun a x1 x2 => f a (by omega) (by omega)) (c6 18 (by decide)) (c6 16 (by decide)) (zq_TL_tr b13 (f 132 (by decide) (by decide))) (zX_CB_tr b14 (f 147 (by decide) (by decide)))
theorem zX_ray : zE_ray zX_Rel := by
  rintro I R J a0 a1 a2 a3 a4 a5 ⟨sw, H, Q, nt, hR, hC⟩
  have hR : R = zE_R sw := hR
  subst hR
  have hC : zX_C sw I J H Q nt := hC
  obtain ⟨b1, b2, b3, b4, b5, b6, b7, b8, b9, b10, b11, b12, b13, b14, b15, -⟩ := id hC
  obtain ⟨r, I1, I2, c1, c2, c3, f, g1, g8⟩ := zq_rayE b7 b8 b9 a0 a1 a2 a3 a4 a5
  refine ⟨r, I1, I2, c1, c2, sw, H, Q, nt, rfl, (?_ : zX_C sw I2 J H Q nt)⟩
  have f : ∀ a, a ≠ 1 → (a < 122 ∨ 125 < a) → a ≠ 148 → (a < 184 ∨ 188 < a) → I2 a = I a := f
  exact zX_mk hC (zX_T_tr b1 (f 2 (by omega) (by omega) (by omega) (by omega)) (g8 2 (by omega)) (f 3 (by omega) (by omega) (by omega) (by omega)) (f 149 (by omega) (by omega) (by omega) (by omega))) (f 7 (by omega) (by omega) (by omega) (by omega)) (g8 17 (by omega)) (c3 b3) (zX_S_tr b4 (g1 6 (by decide)) (g8 65 (by omega)) (f 126 (by omega) (by omega) (by omega) (by omega)) (g8 66 (by omega)) (f 131 (by omega) (by omega) (by omega) (by omega)) (f 191 (by omega) (by omega) (by omega) (by omega)) (f 127 (by omega) (by omega) (by omega) (by omega)) (f 190 (by omega) (by omega) (by omega) (by omega)) (f 189 (by omega) (by omega) (by omega) (by omega))) (zX_L_tr b5 (g8 70 (by omega)) (f 141 (by omega) (by omega) (by omega) (by omega)) (f 192 (by omega) (by omega) (by omega) (by omega))) (zq_TE_tr b6 (fun a x1 x2 => f a (by omega) (by omega) (by omega) (by omega)) (fun a x1 x2 => f a (by omega) (by omega) (by omega) (by omega)) (g8 75 (by omega))) (fun a x1 x2 => f a (by omega) (by omega) (by omega) (by omega)) (fun a x1 x2 => f a (by omega) (by omega) (by omega) (by omega)) (g8 18 (by omega)) (g8 16 (by omega)) (zq_TL_tr b13 (f 132 (by omega) (by omega) (by omega) (by omega))) (zX_CB_tr b14 (f 147 (by omega) (by omega) (by omega) (by omega)))
theorem zX_shine : zE_shine zX_Rel := by
  rintro I R J a0 a1 a2 a3 a4 a5 a6 a7 ⟨sw, H, Q, nt, hR, hC⟩
  have hR : R = zE_R sw := hR
  subst hR
  have hC : zX_C sw I J H Q nt := hC
  obtain ⟨b1, b2, b3, b4, b5, b6, b7, b8, b9, b10, b11, b12, b13, b14, b15, -⟩ := id hC
  obtain ⟨r, I1, I2, c1, c2, c3, f, g1, g8⟩ := zq_shineE b7 b8 b9 a0 a1 a2 a3 a4 a5 a6 a7
  refine ⟨r, I1, I2, c1, c2, sw, H, Q, nt, rfl, (?_ : zX_C sw I2 J H Q nt)⟩
  have f : ∀ a, a ≠ 1 → (a < 126 ∨ 131 < a) → a ≠ 148 → a ≠ 182 → (a < 184 ∨ 186 < a) → (a < 189 ∨ 191 < a) → I2 a = I a := f
  have k : ∀ a, (2 ≤ a ∧ a ≤ 125) ∨ (132 ≤ a ∧ a ≤ 147) ∨ (149 ≤ a ∧ a ≤ 181) ∨ (187 ≤ a ∧ a ≤ 188) ∨ 192 ≤ a → I2 a = I a := fun a ha => f a (by omega) (by omega) (by omega) (by omega) (by omega) (by omega)
  exact zX_mk hC (zX_T_tr b1 (k 2 (by omega)) (g8 2 (by omega) (by omega) (by omega)) (k 3 (by omega)) (k 149 (by omega))) (k 7 (by omega)) (g8 17 (by omega) (by omega) (by omega)) (zX_Y_tr b3 (g1 4 (by decide)) (g8 61 (by omega) (by omega) (by omega)) (k 122 (by omega)) (g8 62 (by omega) (by omega) (by omega)) (k 123 (by omega)) (k 187 (by omega)) (k 124 (by omega)) (k 188 (by omega))) (c3 b4) (zX_L_tr b5 (g8 70 (by omega) (by omega) (by omega)) (k 141 (by omega)) (k 192 (by omega))) (zq_TE_tr b6 (fun a x1 x2 => k a (by omega)) (fun a x1 x2 => k a (by omega)) (g8 75 (by omega) (by omega) (by omega))) (fun a x1 x2 => k a (by omega)) (fun a x1 x2 => k a (by omega)) (g8 18 (by omega) (by omega) (by omega)) (g8 16 (by omega) (by omega) (by omega)) (zq_TL_tr b13 (k 132 (by omega))) (zX_CB_tr b14 (k 147 (by omega)))
/-- grade, price -/
theorem zX_oG {sw : Bool} {I I2 : zI} {J : zJ} {H : zq_H} {Q : zr_Q} {nt : Nat} (hC : zX_C sw I J H Q nt) (o : zr_oG I2 I) : zX_C sw I2 J H Q nt := by
  obtain ⟨b1, b2, b3, b4, b5, b6, b7, b8, b9, b10, b11, b12, b13, b14, b15, -⟩ := id hC
  obtain ⟨f, g8⟩ := o
  have k : ∀ a, a < 138 ∨ (140 ≤ a ∧ a ≤ 147) ∨ (149 ≤ a ∧ a ≤ 181) ∨ 184 ≤ a → I2 a = I a := fun a ha => f a (by omega) (by omega) (by omega) (by omega) (by omega)
  exact zX_mk hC (zX_T_tr b1 (k 2 (by omega)) (g8 2 (by omega)) (k 3 (by omega)) (k 149 (by omega))) (k 7 (by omega)) (g8 17 (by omega)) (zX_Y_tr b3 (by rw [k 1 (by omega)]) (g8 61 (by omega)) (k 122 (by omega)) (g8 62 (by omega)) (k 123 (by omega)) (k 187 (by omega)) (k 124 (by omega)) (k 188 (by omega))) (zX_S_tr b4 (by rw [k 1 (by omega)]) (g8 65 (by omega)) (k 126 (by omega)) (g8 66 (by omega)) (k 131 (by omega)) (k 191 (by omega)) (k 127 (by omega)) (k 190 (by omega)) (k 189 (by omega))) (zX_L_tr b5 (g8 70 (by omega)) (k 141 (by omega)) (k 192 (by omega))) (zq_TE_tr b6 (fun a x1 x2 => k a (by omega)) (fun a x1 x2 => k a (by omega)) (g8 75 (by omega))) (fun a x1 x2 => k a (by omega)) (fun a x1 x2 => k a (by omega)) (g8 18 (by omega)) (g8 16 (by omega)) (zq_TL_tr b13 (k 132 (by omega))) (zX_CB_tr b14 (k 147 (by omega)))
theorem zX_grade : zE_grade zX_Rel := by
  rintro I R J ⟨sw, H, Q, nt, hR, hC⟩
  have hR : R = zE_R sw := hR
  subst hR
  have hC : zX_C sw I J H Q nt := hC
  obtain ⟨b1, b2, b3, b4, b5, b6, b7, b8, b9, b10, b11, b12, b13, b14, b15, -⟩ := id hC
  obtain ⟨r, I1, I2, c1, c2, c3⟩ := zr_gradeE b10 b11 (zX_QM_r b12) b9.1 b4
  exact ⟨r, I1, I2, c1, c2, sw, H, Q, nt, rfl, zX_oG hC c3⟩
theorem zX_price : zE_price zX_Rel := by
  rintro I R J ⟨sw, H, Q, nt, hR, hC⟩
  have hR : R = zE_R sw := hR
  subst hR
  have hC : zX_C sw I J H Q nt := hC
  obtain ⟨b1, b2, b3, b4, b5, b6, b7, b8, b9, b10, b11, b12, b13, b14, b15, -⟩ := id hC
  obtain ⟨r, I1, I2, c1, c2, c3⟩ := zr_priceE b10 b11 (zX_QM_r b12) b9.1 b4
  exact ⟨r, I1, I2, c1, c2, sw, H, Q, nt, rfl, zX_oG hC c3⟩
/-- dearest, two -/
theorem zX_oD {sw : Bool} {I I2 : zI} {J : zJ} {H : zq_H} {Q : zr_Q} {nt : Nat} (hC : zX_C sw I J H Q nt) (hL : zE_L I2) (hTL : zq_TL I2) (o : zr_oD I2 I) : zX_C sw I2 J H Q nt := by
  obtain ⟨b1, b2, b3, b4, b5, b6, b7, b8, b9, b10, b11, b12, b13, b14, b15, -⟩ := id hC
  obtain ⟨f, g8⟩ := o
  have k : ∀ a, a < 132 ∨ (142 ≤ a ∧ a ≤ 147) ∨ (149 ≤ a ∧ a ≤ 181) ∨ (187 ≤ a ∧ a ≤ 191) ∨ 196 ≤ a → I2 a = I a := fun a ha => f a (by omega) (by omega) (by omega) (by omega)
  have q : ∀ y, y < 51 ∨ (60 ≤ y ∧ y ≠ 70) → I2 148 y = I 148 y := fun y hy => g8 y (by omega) (by omega) (by omega)
  exact zX_mk hC (zX_T_tr b1 (k 2 (by omega)) (q 2 (by omega)) (k 3 (by omega)) (k 149 (by omega))) (k 7 (by omega)) (q 17 (by omega)) (zX_Y_tr b3 (by rw [k 1 (by omega)]) (q 61 (by omega)) (k 122 (by omega)) (q 62 (by omega)) (k 123 (by omega)) (k 187 (by omega)) (k 124 (by omega)) (k 188 (by omega))) (zX_S_tr b4 (by rw [k 1 (by omega)]) (q 65 (by omega)) (k 126 (by omega)) (q 66 (by omega)) (k 131 (by omega)) (k 191 (by omega)) (k 127 (by omega)) (k 190 (by omega)) (k 189 (by omega))) hL (zq_TE_tr b6 (fun a x1 x2 => k a (by omega)) (fun a x1 x2 => k a (by omega)) (q 75 (by omega))) (fun a x1 x2 => k a (by omega)) (fun a x1 x2 => k a (by omega)) (q 18 (by omega)) (q 16 (by omega)) hTL (zX_CB_tr b14 (k 147 (by omega)))
theorem zX_dearest : zE_dearest zX_Rel := by
  rintro I R J a0 a1 a2 ⟨sw, H, Q, nt, hR, hC⟩
  have hR : R = zE_R sw := hR
  subst hR
  have hC : zX_C sw I J H Q nt := hC
  obtain ⟨b1, b2, b3, b4, b5, b6, b7, b8, b9, b10, b11, b12, b13, b14, b15, -⟩ := id hC
  obtain ⟨r, I1, I2, c1, c2, c3, c4, c5⟩ := zr_dearestE b7 b8 b9 b13 b10 b11 (zX_QM_r b12) b5 a0 a1 a2
  exact ⟨r, I1, I2, c1, c2, sw, H, Q, nt, rfl, zX_oD hC c3 c4 c5⟩
theorem zX_two : zE_two zX_Rel := by
  rintro I R J a0 a1 a2 ⟨sw, H, Q, nt, hR, hC⟩
  have hR : R = zE_R sw := hR
  subst hR
  have hC : zX_C sw I J H Q nt := hC
  obtain ⟨b1, b2, b3, b4, b5, b6, b7, b8, b9, b10, b11, b12, b13, b14, b15, -⟩ := id hC
  obtain ⟨r, I1, I2, c1, c2, c3, c4, c5⟩ := zr_twoE b7 b8 b9 b13 b10 b11 (zX_QM_r b12) b5 a0 a1 a2
  exact ⟨r, I1, I2, c1, c2, sw, H, Q, nt, rfl, zX_oD hC c3 c4 c5⟩
/-- test, annul -/
theorem zX_oT {sw : Bool} {I I2 : zI} {J : zJ} {H : zq_H} {Q : zr_Q} {nt nt2 : Nat} (hC : zX_C sw I J H Q nt) (hTE : zq_TE I2 nt2 H) (o : zq_oTest I2 I) : zX_C sw I2 J H Q nt2 := by
  obtain ⟨b1, b2, b3, b4, b5, b6, b7, b8, b9, b10, b11, b12, b13, b14, b15, -⟩ := id hC
  obtain ⟨f, g8⟩ := o
  have k : ∀ a, a < 142 ∨ a = 147 ∨ (149 ≤ a ∧ a ≤ 195) → I2 a = I a := fun a ha => f a (by omega) (by omega) (by omega)
  exact zX_mk hC (zX_T_tr b1 (k 2 (by omega)) (g8 2 (by omega)) (k 3 (by omega)) (k 149 (by omega))) (k 7 (by omega)) (g8 17 (by omega)) (zX_Y_tr b3 (by rw [k 1 (by omega)]) (g8 61 (by omega)) (k 122 (by omega)) (g8 62 (by omega)) (k 123 (by omega)) (k 187 (by omega)) (k 124 (by omega)) (k 188 (by omega))) (zX_S_tr b4 (by rw [k 1 (by omega)]) (g8 65 (by omega)) (k 126 (by omega)) (g8 66 (by omega)) (k 131 (by omega)) (k 191 (by omega)) (k 127 (by omega)) (k 190 (by omega)) (k 189 (by omega))) (zX_L_tr b5 (g8 70 (by omega)) (k 141 (by omega)) (k 192 (by omega))) hTE (fun a x1 x2 => k a (by omega)) (fun a x1 x2 => k a (by omega)) (g8 18 (by omega)) (g8 16 (by omega)) (zq_TL_tr b13 (k 132 (by omega))) (zX_CB_tr b14 (k 147 (by omega)))
theorem zX_test : zE_test zX_Rel := by
  rintro I R J a0 a1 a2 ⟨sw, H, Q, nt, hR, hC⟩
  have hR : R = zE_R sw := hR
  subst hR
  have hC : zX_C sw I J H Q nt := hC
  obtain ⟨b1, b2, b3, b4, b5, b6, b7, b8, b9, -⟩ := id hC
  obtain ⟨r, I1, I2, nt2, c1, c2, c3, c4⟩ := zq_testE b7 b8 b9 b6 a0 a1 a2
  exact ⟨r, I1, I2, c1, c2, sw, H, Q, nt2, rfl, zX_oT hC c3 c4⟩
theorem zX_annul : zE_annul zX_Rel := by
  rintro I R J a0 ⟨sw, H, Q, nt, hR, hC⟩
  have hR : R = zE_R sw := hR
  subst hR
  have hC : zX_C sw I J H Q nt := hC
  obtain ⟨b1, b2, b3, b4, b5, b6, b7, b8, b9, -⟩ := id hC
  obtain ⟨r, I1, I2, nt2, c1, c2, c3, c4⟩ := zq_annulE (b := sw) b6 a0
  exact ⟨r, I1, I2, c1, c2, sw, H, Q, nt2, rfl, zX_oT hC c3 c4⟩
/-- bright, barred, left, next -/
theorem zX_oB {sw : Bool} {I I2 : zI} {J : zJ} {H : zq_H} {Q : zr_Q} {nt : Nat} (hC : zX_C sw I J H Q nt) (hB : zq_BC sw I2 H) (o : zq_oBr I2 I) : zX_C sw I2 J H Q nt := by
  obtain ⟨b1, b2, b3, b4, b5, b6, b7, b8, b9, b10, b11, b12, b13, b14, b15, -⟩ := id hC
  obtain ⟨f, g8⟩ := o
  have k : ∀ a, a < 132 ∨ (138 ≤ a ∧ a ≤ 146) ∨ (149 ≤ a ∧ a ≤ 181) ∨ 187 ≤ a → I2 a = I a := fun a ha => f a (by omega) (by omega) (by omega) (by omega) (by omega)
  exact zX_mk hC (zX_T_tr b1 (k 2 (by omega)) (g8 2 (by omega)) (k 3 (by omega)) (k 149 (by omega))) (k 7 (by omega)) (g8 17 (by omega)) (zX_Y_tr b3 (by rw [k 1 (by omega)]) (g8 61 (by omega)) (k 122 (by omega)) (g8 62 (by omega)) (k 123 (by omega)) (k 187 (by omega)) (k 124 (by omega)) (k 188 (by omega))) (zX_S_tr b4 (by rw [k 1 (by omega)]) (g8 65 (by omega)) (k 126 (by omega)) (g8 66 (by omega)) (k 131 (by omega)) (k 191 (by omega)) (k 127 (by omega)) (k 190 (by omega)) (k 189 (by omega))) (zX_L_tr b5 (g8 70 (by omega)) (k 141 (by omega)) (k 192 (by omega))) (zq_TE_tr b6 (fun a x1 x2 => k a (by omega)) (fun a x1 x2 => k a (by omega)) (g8 75 (by omega))) (fun a x1 x2 => k a (by omega)) (fun a x1 x2 => k a (by omega)) (g8 18 (by omega)) (g8 16 (by omega)) hB.2.1 hB.2.2
theorem zX_bright : zE_bright zX_Rel := by
  rintro I R J a0 a1 a2 ⟨sw, H, Q, nt, hR, hC⟩
  have hR : R = zE_R sw := hR
  subst hR
  have hC : zX_C sw I J H Q nt := hC
  obtain ⟨b1, b2, b3, b4, b5, b6, b7, b8, b9, b10, b11, b12, b13, b14, b15, -⟩ := id hC
  obtain ⟨r, I1, I2, c1, c2, c3, c4, c5⟩ := zq_brightE b7 ⟨b8, b13, b14⟩ b9 a0 a1 a2
  exact ⟨r, I1, I2, c1, c2, sw, H, Q, nt, rfl, zX_oB hC c3 c5⟩
theorem zX_barred : zE_barred zX_Rel := by
  rintro I R J a0 a1 ⟨sw, H, Q, nt, hR, hC⟩
  have hR : R = zE_R sw := hR
  subst hR
  have hC : zX_C sw I J H Q nt := hC
  obtain ⟨b1, b2, b3, b4, b5, b6, b7, b8, b9, b10, b11, b12, b13, b14, b15, -⟩ := id hC
  obtain ⟨r, I1, I2, c1, c2, c3, c4, c5⟩ := zq_barredE b7 ⟨b8, b13, b14⟩ b9 b6 a0 a1
  exact ⟨r, I1, I2, c1, c2, sw, H, Q, nt, rfl, zX_oB hC c3 c5⟩
theorem zX_left : zE_left zX_Rel := by
  rintro I R J a0 ⟨sw, H, Q, nt, hR, hC⟩
  have hR : R = zE_R sw := hR
  subst hR
  have hC : zX_C sw I J H Q nt := hC
  obtain ⟨b1, b2, b3, b4, b5, b6, b7, b8, b9, b10, b11, b12, b13, b14, b15, -⟩ := id hC
  obtain ⟨r, I1, I2, c1, c2, c3, c4, c5⟩ := zq_leftE b7 ⟨b8, b13, b14⟩ b9 b6 a0
  exact ⟨r, I1, I2, c1, c2, sw, H, Q, nt, rfl, zX_oB hC c3 c5⟩
theorem zX_next : zE_next zX_Rel := by
  rintro I R J a0 ⟨sw, H, Q, nt, hR, hC⟩
  have hR : R = zE_R sw := hR
  subst hR
  have hC : zX_C sw I J H Q nt := hC
  obtain ⟨b1, b2, b3, b4, b5, b6, b7, b8, b9, b10, b11, b12, b13, b14, b15, -⟩ := id hC
  obtain ⟨r, I1, I2, c1, c2, c3, c4, c5⟩ := zq_nextE b7 ⟨b8, b13, b14⟩ b9 b6 a0
  exact ⟨r, I1, I2, c1, c2, sw, H, Q, nt, rfl, zX_oB hC c3 c5⟩
/-- calls that change nothing -/
theorem zX_pure {P : Bool → zI → Int32 → Prop} {I : zI} {R : zR} {J : zJ} (h : zX_Rel (I, R, J)) (f : ∀ sw H Q nt, zX_C sw I J H Q nt → ∃ r, P sw I r) : ∃ sw r, R = zE_R sw ∧ P sw I r := by
  obtain ⟨sw, H, Q, nt, hR, hC⟩ := h
  obtain ⟨r, hr⟩ := f sw H Q nt hC
  exact ⟨sw, r, hR, hr⟩
theorem zX_pl : zE_place zX_Rel := by
  intro I R J h
  obtain ⟨sw, r, hR, h1, h2⟩ := zX_pure (P := fun sw I r => f_X10_place 1 I (zE_R sw) = some r ∧ f_X11_place 148 I = some r) h (fun sw H Q nt hC => zE_placeE hC.2.1)
  exact ⟨r, by rw [hR]; exact h1, h2, h⟩
theorem zX_weight : zE_weight zX_Rel := by
  intro I R J a0 a1 hv h
  obtain ⟨sw, r, hR, h1, h2⟩ := zX_pure (P := fun sw I r => f_X10_weight 1 a0 a1 I (zE_R sw) = some r ∧ f_X11_weight 148 a0 a1 I (zE_R sw) = some r) h (fun sw H Q nt hC => zq_weightE hC.2.2.2.2.2.2.1 hC.2.2.2.2.2.2.2.1 hC.2.2.2.2.2.2.2.2.1 a0 a1 hv)
  exact ⟨r, by rw [hR]; exact h1, by rw [hR]; exact h2, h⟩
theorem zX_cell : zE_cell zX_Rel := by
  intro I R J a0 a1 a2 a3 hv h
  obtain ⟨sw, r, hR, h1, h2⟩ := zX_pure (P := fun sw I r => f_X10_cell 1 a0 a1 a2 a3 I (zE_R sw) = some r ∧ f_X11_cell 148 a0 a1 a2 a3 I (zE_R sw) = some r) h (fun sw H Q nt hC => zq_cellE hC.2.2.2.2.2.2.1 hC.2.2.2.2.2.2.2.1 hC.2.2.2.2.2.2.2.2.1 a0 a1 a2 a3 hv)
  exact ⟨r, by rw [hR]; exact h1, by rw [hR]; exact h2, h⟩
theorem zX_even : zE_even zX_Rel := by
  intro I R J a0 h
  obtain ⟨sw, r, hR, h1, h2⟩ := zX_pure (P := fun sw I r => f_X10_even 1 a0 I (zE_R sw) = some r ∧ f_X11_even 148 a0 I (zE_R sw) = some r) h (fun sw H Q nt hC => zq_evenE hC.2.2.2.2.2.2.1 hC.2.2.2.2.2.2.2.1 hC.2.2.2.2.2.2.2.2.1 a0)
  exact ⟨r, by rw [hR]; exact h1, by rw [hR]; exact h2, h⟩
theorem zX_step : zE_step zX_Rel := by
  intro I R J a0 h
  obtain ⟨sw, r, hR, h1, h2⟩ := zX_pure (P := fun sw I r => f_X10_step 1 a0 I (zE_R sw) = some r ∧ f_X11_step 148 a0 I (zE_R sw) = some r) h (fun sw H Q nt hC => zE_stepE hC.2.2.1 a0)
  exact ⟨r, by rw [hR]; exact h1, by rw [hR]; exact h2, h⟩
theorem zX_spark : zE_spark zX_Rel := by
  intro I R J a0 h
  obtain ⟨sw, r, hR, h1, h2⟩ := zX_pure (P := fun sw I r => f_X10_spark 1 a0 I (zE_R sw) = some r ∧ f_X11_spark 148 a0 I (zE_R sw) = some r) h (fun sw H Q nt hC => zE_sparkE hC.2.2.1 a0)
  exact ⟨r, by rw [hR]; exact h1, by rw [hR]; exact h2, h⟩
theorem zX_seen : zE_seen zX_Rel := by
  intro I R J a0 h
  obtain ⟨sw, r, hR, h1, h2⟩ := zX_pure (P := fun sw I r => f_X10_seen 1 a0 I (zE_R sw) = some r ∧ f_X11_seen 148 a0 I (zE_R sw) = some r) h (fun sw H Q nt hC => zE_seenE hC.2.2.2.1 a0)
  exact ⟨r, by rw [hR]; exact h1, by rw [hR]; exact h2, h⟩
theorem zX_column : zE_column zX_Rel := by
  intro I R J a0 h
  obtain ⟨sw, r, hR, h1, h2⟩ := zX_pure (P := fun sw I r => f_X10_column 1 a0 I (zE_R sw) = some r ∧ f_X11_column 148 a0 I (zE_R sw) = some r) h (fun sw H Q nt hC => zE_columnE hC.2.2.2.1 a0)
  exact ⟨r, by rw [hR]; exact h1, by rw [hR]; exact h2, h⟩
theorem zX_fits : zE_fits zX_Rel := by
  intro I R J a0 a1 a2 a3 h
  obtain ⟨sw, r, hR, h1, h2⟩ := zX_pure (P := fun sw I r => f_X10_fits 1 a0 a1 a2 a3 I (zE_R sw) = some r ∧ f_X11_fits 148 a0 a1 a2 a3 I (zE_R sw) = some r) h (fun sw H Q nt hC => zq_fitsE hC.2.2.2.2.2.2.1 hC.2.2.2.2.2.2.2.1 hC.2.2.2.2.2.2.2.2.1 a0 a1 a2 a3)
  exact ⟨r, by rw [hR]; exact h1, by rw [hR]; exact h2, h⟩
theorem zX_places : zE_places zX_Rel := by
  intro I R J a0 a1 h
  obtain ⟨sw, r, hR, h1, h2⟩ := zX_pure (P := fun sw I r => f_X10_places 1 a0 a1 I (zE_R sw) = some r ∧ f_X11_places 148 a0 a1 I (zE_R sw) = some r) h (fun sw H Q nt hC => zq_placesE hC.2.2.2.2.2.2.1 hC.2.2.2.2.2.2.2.1 hC.2.2.2.2.2.2.2.2.1 a0 a1)
  exact ⟨r, by rw [hR]; exact h1, by rw [hR]; exact h2, h⟩
theorem zX_laid : zE_laid zX_Rel := by
  intro I R J a0 h
  obtain ⟨sw, r, hR, h1, h2⟩ := zX_pure (P := fun sw I r => f_X10_laid 1 a0 I (zE_R sw) = some r ∧ f_X11_laid 148 a0 I (zE_R sw) = some r) h (fun sw H Q nt hC => zE_laidE hC.2.2.2.2.1 a0)
  exact ⟨r, by rw [hR]; exact h1, by rw [hR]; exact h2, h⟩
theorem zX_count : zE_count zX_Rel := by
  intro I R J a0 h
  obtain ⟨sw, r, hR, h1, h2⟩ := zX_pure (P := fun sw I r => f_X10_count 1 a0 I (zE_R sw) = some r ∧ f_X11_count 148 a0 I (zE_R sw) = some r) h (fun sw H Q nt hC => by
    obtain ⟨b1, b2, b3, b4, b5, b6, b7, b8, b9, b10, b11, b12, -⟩ := hC
    exact zq_countE b7 b8 b9 ⟨b11.1, b11.2.1, b12.1, b12.2.1⟩ b6 b1 a0)
  exact ⟨r, by rw [hR]; exact h1, by rw [hR]; exact h2, h⟩
theorem zX_All : zE_All zX_Rel := ⟨zX_feed, zX_back, zX_read, zX_pl, zX_weight, zX_cell, zX_even, zX_ray, zX_step, zX_spark, zX_shine, zX_seen, zX_column, zX_grade, zX_price, zX_fits, zX_places, zX_dearest, zX_two, zX_laid, zX_test, zX_annul, zX_bright, zX_barred, zX_left, zX_next, zX_count⟩
