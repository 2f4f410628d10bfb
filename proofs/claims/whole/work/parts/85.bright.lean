/-! ===== bright, barred ===== -/
theorem zE_hb (b : Bool) : 8 ≤ zE_h b ∧ zE_h b ≤ 65 := by cases b <;> decide
/-- the trial's lamps and head -/
def zq_TL (I : zI) : Prop := I 132 5 = nI 1000 ∧ I 132 6 = nI 0 ∧ I 132 7 = nI 0 ∧ I 132 8 = 1 ∧ I 132 9 = 0
def zq_bS (H : zq_H) (c s co : Nat) : Nat → Int32 := zq_shS (H.D c) (nI (H.fl s co)) (nI (H.sl s co)) (nI (H.ea s)) (nI 1000) (nI 0) (nI 0) 1 0
def zq_br (H : zq_H) (c s co : Nat) : Int32 := zq_bS H c s co 0
theorem zq_bS_b {H : zq_H} (hK : zq_HK H) {c s co : Nat} (hc : c < H.nc) : zq_SB 12000 (zq_bS H c s co) := by
  have h := hK.2.2.2.1 s co
  have := zq_SB_sh (hK.2.2.2.2 c (Or.inl hc)) (fl := H.fl s co) (sl := H.sl s co) (ea := H.ea s) (ab := 1000) (le := 0) (ri := 0) 1 0 h.1 h.2.1 h.2.2 (by decide) (by decide) (by decide)
  exact this
theorem zq_br_b {H : zq_H} (hK : zq_HK H) {c s co : Nat} (hc : c < H.nc) : ∃ σ, zq_br H c s co = nI σ ∧ σ ≤ 12000 := zq_bS_b hK hc 0 (by decide)
theorem zq_trial {b : Bool} {I : zI} {H : zq_H} (hK : zq_HK H) (hC : zq_HC b I H) (hT : zq_TL I) {c s co : Nat} (hc : c < H.nc) (hs : s < H.ns) (hco : co < 4) : ∃ I2, f_X6_lightUp 132 (zE_h b + (21 + 2 * c)) (zE_h b + (9 + 3 * s)) (nI co) I (zE_R b) = some I2 ∧ (∀ a, (a < 132 ∨ 137 < a) → I2 a = I a) ∧ zq_TL I2 ∧ I2 132 2 = nI (H.D c).w ∧ I2 132 3 = nI (zq_hf (H.D c) (H.D c).t) ∧ I2 132 4 = nI co ∧ ∀ j, j < 9 → I2 133 j = zq_vec (H.D c) (zq_bS H c s co) (zq_gv (H.D c) (nI 1000) (nI 0) (nI 0) 1 0) j := by
  have hb := zE_hb b
  have k1 := hK.1
  have k2 := hK.2.1
  obtain ⟨dc, dx⟩ := hC.2.2.2.2 c (Or.inl hc)
  have st := hC.2.2.2.1 s hs
  obtain ⟨t5, t6, t7, t8, t9⟩ := hT
  obtain ⟨I2, f1, f2, f3, f4, f5, f6, f7, f8⟩ := zq_lightUpC (sw := b) (I := I) (o := 132) (cu := zE_h b + (21 + 2 * c)) (st := zE_h b + (9 + 3 * s)) (c := co) (zq_sn2 b) (zq_drk b b c (by omega)) (by omega) (zq_sfk b b s (by omega)) (by omega) hco (hK.2.2.2.2 c (Or.inl hc)) dc dx (fl := nI (H.fl s co)) (sl := nI (H.sl s co)) (by rw [show zE_h b + (9 + 3 * s) + 1 = zE_h b + (10 + 3 * s) by omega]; exact (st.1 co hco).1) (by rw [show zE_h b + (9 + 3 * s) + 2 = zE_h b + (11 + 3 * s) by omega]; exact (st.1 co hco).2) st.2 t5 t6 t7 t8 t9
  exact ⟨I2, f1, f2, ⟨by rw [f6 5 (by omega)]; exact t5, by rw [f6 6 (by omega)]; exact t6, by rw [f6 7 (by omega)]; exact t7, by rw [f6 8 (by omega)]; exact t8, by rw [f6 9 (by omega)]; exact t9⟩, f3, f4, f5, f8⟩
def zq_CB (I : zI) (H : zq_H) : Prop := ∀ c s co, c < H.nc → s < H.ns → co < 4 → I 147 ((c * 4 + s) * 4 + co) = -1 ∨ I 147 ((c * 4 + s) * 4 + co) = zq_br H c s co
def zq_BC (b : Bool) (I : zI) (H : zq_H) : Prop := zq_HC b I H ∧ zq_TL I ∧ zq_CB I H
def zq_fC (I2 I : zI) : Prop := ∀ a, (a < 132 ∨ 137 < a) → a ≠ 147 → I2 a = I a
theorem zq_fC.tr {I3 I2 I : zI} (h : zq_fC I3 I2) (h1 : zq_fC I2 I) : zq_fC I3 I := fun a h2 h3 => (h a h2 h3).trans (h1 a h2 h3)
def zq_fM (I2 I : zI) : Prop := (∀ a, a ≠ 148 → a ≠ 182 → (a < 184 ∨ 186 < a) → I2 a = I a) ∧ ∀ y, (y < 54 ∨ 59 < y) → I2 148 y = I 148 y
theorem zq_fM.tr {I3 I2 I : zI} (h : zq_fM I3 I2) (h1 : zq_fM I2 I) : zq_fM I3 I := ⟨fun a h2 h3 h4 => (h.1 a h2 h3 h4).trans (h1.1 a h2 h3 h4), fun y hy => (h.2 y hy).trans (h1.2 y hy)⟩
theorem zq_fM.rf (I : zI) : zq_fM I I := ⟨fun _ _ _ _ => rfl, fun _ _ => rfl⟩
theorem zq_brC {b : Bool} {I : zI} {H : zq_H} (hK : zq_HK H) (hB : zq_BC b I H) {c s co : Nat} (hc : c < H.nc) (hs : s < H.ns) (hco : co < 4) : ∃ I2, f_X10_brightOf 1 (nI c) (nI s) (nI co) I (zE_R b) = some (zq_br H c s co, I2) ∧ zq_BC b I2 H ∧ zq_fC I2 I := by
  have hb := zE_hb b
  have k1 := hK.1
  have k2 := hK.2.1
  obtain ⟨hC, hT, hQ⟩ := id hB
  have e1 : (nI c * 4 + nI s) * 4 + nI co = nI ((c * 4 + s) * 4 + co) := by
    rw [show (4 : Int32) = nI 4 from rfl, pk_mul, nI_add, pk_mul, nI_add]
  obtain ⟨r1, r2, r3, g1, g2, s2⟩ := zq_refC b (j := c) (by omega)
  obtain ⟨q1, q2, q3, q4⟩ := zq_refS b (j := s) (by omega)
  obtain ⟨I2, f1, f2, f3, f4, f5, f6, f7⟩ := zq_trial hK hC hT hc hs hco
  unfold f_X10_brightOf j_X10_brightOf_64
  simp only [zw_let_e, e1, zE_gC, zE_rC b, zE_sC, zw_g_t, zE_in (k := (c * 4 + s) * 4 + co) (n := 96) (by omega) (by decide), zE_cl (k := (c * 4 + s) * 4 + co) (by omega), r1, r2, r3, g1, g2, s2, q1, q2, q3, q4, zE_cl (k := c) (by omega), zE_cl (k := s) (by omega), zE_in (k := c) (n := 6) (by omega) (by decide), zE_in (k := s) (n := 4) (by omega) (by decide), (zE_sHdr b c (by omega)).2, (zE_sHst b s (by omega)).2, f1, Option.bind_some, show zw_in 0 9 = true by decide, show Int32.toNatClampNeg 0 = 0 by decide, f7 0 (by decide), zE_u1]
  by_cases hz : I 147 ((c * 4 + s) * 4 + co) = -1
  · rw [if_neg (fun q => q hz)]
    refine ⟨_, rfl, ⟨zq_HC_tr hK hC (fun a h1 h2 => by rw [zw_u_off _ _ _ (by omega), f2 a (by omega)]), ?_, fun c2 s2 co2 h1 h2 h3 => ?_⟩, fun a h1 h2 => by rw [zw_u_off _ _ _ h2, f2 a h1]⟩
    · obtain ⟨t5, t6, t7, t8, t9⟩ := f3
      exact ⟨by rw [zE_u2 _ _ (by omega)]; exact t5, by rw [zE_u2 _ _ (by omega)]; exact t6, by rw [zE_u2 _ _ (by omega)]; exact t7, by rw [zE_u2 _ _ (by omega)]; exact t8, by rw [zE_u2 _ _ (by omega)]; exact t9⟩
    · by_cases he : (c2 * 4 + s2) * 4 + co2 = (c * 4 + s) * 4 + co
      · have ec : co2 = co := by omega
        have es : s2 = s := by omega
        have ecc : c2 = c := by omega
        subst ec es ecc
        rw [zE_u1]; exact Or.inr rfl
      · rw [zE_u2 _ _ (fun q => he q.2), f2 147 (by omega)]
        exact hQ c2 s2 co2 h1 h2 h3
  · rw [if_pos hz]
    rcases hQ c s co hc hs hco with h | h
    · exact absurd h hz
    · rw [h]; exact ⟨_, rfl, hB, fun _ _ _ => rfl⟩
theorem zq_brM {b : Bool} {I : zI} {H : zq_H} (hK : zq_HK H) (hM : zq_HM b I H) {c s co : Nat} (hc : c < H.nc) (hs : s < H.ns) (hco : co < 4) : ∃ I2, f_X11_brightOf 148 (nI c) (nI s) (nI co) I (zE_R b) = some (zq_br H c s co, I2) ∧ zq_HM b I2 H ∧ zq_fM I2 I := by
  have hl := zq_lv1 b
  have k1 := hK.1
  have k2 := hK.2.1
  have e1 : 10 * nI (zq_lv b) + nI c = nI (10 * zq_lv b + c) := by rw [show (10 : Int32) = nI 10 from rfl, pk_mul, nI_add]
  have e2 : 4 * nI (zq_lv b) + nI s = nI (4 * zq_lv b + s) := by rw [show (4 : Int32) = nI 4 from rfl, pk_mul, nI_add]
  have st := hM.2.2.2.2.1 s hs
  have hB : zq_SB 10000000 (zq_bS H c s co) := fun j hj => by
    obtain ⟨σ, h1, h2⟩ := zq_bS_b hK (s := s) (co := co) hc j hj
    exact ⟨σ, h1, by omega⟩
  obtain ⟨I2, m1, m2, m3, m4, -⟩ := zq_shinesM (sw := b) (I := I) (k := 10 * zq_lv b + c) (q := 4 * zq_lv b + s) (c := co) (by omega) (by omega) hco (hK.2.2.2.2 c (Or.inl hc)) (hM.2.2.2.2.2 c (Or.inl hc)) (st.1 co hco).1 (st.1 co hco).2 st.2 (ab := nI 1000) (le := nI 0) (ri := nI 0) (a := 1) (b := 0) hB
  have m1b : f_X11_shines 148 (nI (10 * zq_lv b + c)) (nI (4 * zq_lv b + s)) (nI co) 1000 0 0 1 0 I (zE_R b) = some I2 := m1
  unfold f_X11_brightOf
  simp only [zE_gM, zE_rM b, zE_sM, zw_g_t, hM.1, e1, e2, m1b, Option.bind_some, show zw_in 0 4 = true by decide, show Int32.toNatClampNeg 0 = 0 by decide, m4 0 (by decide)]
  exact ⟨_, rfl, zq_HM_tr hM (fun a h1 h2 => m2 a (by omega) (by omega) (by omega)) (m3 18 (by omega)), m2, m3⟩
def zq_oBr (I2 I : zI) : Prop := (∀ a, (a < 132 ∨ 137 < a) → a ≠ 147 → a ≠ 148 → a ≠ 182 → (a < 184 ∨ 186 < a) → I2 a = I a) ∧ ∀ y, (y < 54 ∨ 59 < y) → I2 148 y = I 148 y
theorem zq_oBr.of {I2 I1 I : zI} (h1 : zq_fC I1 I) (h2 : zq_fM I2 I1) : zq_oBr I2 I := ⟨fun a a1 a2 a3 a4 a5 => (h2.1 a a3 a4 a5).trans (h1 a a1 a2), fun y hy => (h2.2 y hy).trans (by rw [h1 148 (by omega) (by omega)])⟩
/-- the class's own state after the model's part -/
theorem zq_BC_M {b : Bool} {I2 I : zI} {H : zq_H} (hK : zq_HK H) (h : zq_BC b I H) (hf : ∀ a, a < 148 → I2 a = I a) : zq_BC b I2 H := by
  obtain ⟨h1, ⟨t5, t6, t7, t8, t9⟩, h3⟩ := h
  refine ⟨zq_HC_tr hK h1 (fun a _ _ => hf a (by omega)), ⟨?_, ?_, ?_, ?_, ?_⟩, fun c s co x y z => ?_⟩
  · rw [hf 132 (by omega)]; exact t5
  · rw [hf 132 (by omega)]; exact t6
  · rw [hf 132 (by omega)]; exact t7
  · rw [hf 132 (by omega)]; exact t8
  · rw [hf 132 (by omega)]; exact t9
  · rw [hf 147 (by omega)]; exact h3 c s co x y z
theorem zq_HM_C {b : Bool} {I2 I : zI} {H : zq_H} (h : zq_HM b I H) (hf : zq_fC I2 I) : zq_HM b I2 H := zq_HM_tr h (fun a _ _ => hf a (by omega) (by omega)) (by rw [hf 148 (by omega) (by omega)])
/-- bright -/
theorem zq_brightE {b : Bool} {I : zI} {H : zq_H} (hK : zq_HK H) (hB : zq_BC b I H) (hM : zq_HM b I H) (v1 v2 v3 : Int32) : ∃ r I1 I2, f_X10_bright 1 v1 v2 v3 I (zE_R b) = some (r, I1) ∧ f_X11_bright 148 v1 v2 v3 I1 (zE_R b) = some (r, I2) ∧ zq_BC b I2 H ∧ zq_HM b I2 H ∧ zq_oBr I2 I := by
  have k1 := hK.1
  have k2 := hK.2.1
  have hl := zq_lv1 b
  have nobody : ∀ {A B : Option (Int32 × zI)}, A = some (-1, I) → B = some (-1, I) → ∃ r I1 I2, A = some (r, I1) ∧ (I1 = I → B = some (r, I2)) ∧ zq_BC b I2 H ∧ zq_HM b I2 H ∧ zq_oBr I2 I := fun h1 h2 => ⟨_, _, _, h1, fun _ => h2, hB, hM, ⟨fun _ _ _ _ _ _ => rfl, fun _ _ => rfl⟩⟩
  unfold f_X10_bright
  simp only [zE_gC, zw_g_t]
  rcases zq_isCut hK hB.1 v1 with ⟨h1, h2⟩ | ⟨j, hj, rfl, h2⟩
  · rw [h2]
    refine ⟨_, _, _, rfl, ?_, hB, hM, ⟨fun _ _ _ _ _ _ => rfl, fun _ _ => rfl⟩⟩
    unfold f_X11_bright j_X11_bright_25
    simp only [zE_gM, zw_g_t, (zq_cutRow hK hM v1).1 h1]
    rfl
  have hr := (zq_cutRow hK hM (nI j)).2 j hj rfl
  have hm1 := zq_nm1 (n := 10 * zq_lv b + j) (by omega)
  rw [h2, Option.bind_some, if_neg zE_10]
  rcases zq_isStuff hK hB.1 v2 with ⟨h3, h4⟩ | ⟨s, hs, rfl, h4⟩
  · rw [h4]
    refine ⟨_, _, _, rfl, ?_, hB, hM, ⟨fun _ _ _ _ _ _ => rfl, fun _ _ => rfl⟩⟩
    unfold f_X11_bright j_X11_bright_25
    simp only [zE_gM, zw_g_t, hr, Option.bind_some, if_neg hm1, (zq_stuffRow hK hM v2).1 h3]
    rfl
  have hr2 := (zq_stuffRow hK hM (nI s)).2 s hs rfl
  have hm2 := zq_nm1 (n := 4 * zq_lv b + s) (by omega)
  rw [h4, Option.bind_some, if_neg zE_10]
  rcases zq_col v3 with ⟨-, h5, h6⟩ | ⟨c, hc, rfl, h5, h6⟩
  · rw [h5]
    refine ⟨_, _, _, rfl, ?_, hB, hM, ⟨fun _ _ _ _ _ _ => rfl, fun _ _ => rfl⟩⟩
    unfold f_X11_bright j_X11_bright_25
    simp only [zE_gM, zw_g_t, hr, hr2, Option.bind_some, if_neg hm1, if_neg hm2, h6]
    rfl
  rw [h5, Option.bind_some, if_neg zE_10]
  obtain ⟨I1, c1, c2, c3⟩ := zq_brC hK hB hj hs hc
  have hM1 := zq_HM_C hM c3
  obtain ⟨I2, m1, m2, m3⟩ := zq_brM hK hM1 hj hs hc
  rw [c1]
  refine ⟨_, _, I2, rfl, ?_, zq_BC_M hK c2 (fun a ha => m3.1 a (by omega) (by omega) (by omega)), m2, zq_oBr.of c3 m3⟩
  unfold f_X11_bright
  simp only [zE_gM, zw_g_t, (zq_cutRow hK hM1 (nI j)).2 j hj rfl, (zq_stuffRow hK hM1 (nI s)).2 s hs rfl, Option.bind_some, if_neg hm1, if_neg hm2, h6, if_pos zE_10, m1]
/-- a TEST stands -/
def zq_St (I : zI) (n k : Nat) : Prop := I 146 k = -1 ∧ ∀ j, k + 1 ≤ j → j < n → ¬ I 146 j = nI k
def zq_far (I : zI) (H : zq_H) (s k : Nat) : Prop := ¬ zq_ab (I 145 k - zq_br H (I 143 k).toNatClampNeg s (I 144 k).toNatClampNeg) ≤ I 145 k / 20 + 5
def zq_Bar (I : zI) (H : zq_H) (n s k : Nat) : Prop := zq_St I n k ∧ zq_far I H s k
theorem zq_standsC {b : Bool} {I : zI} {H : zq_H} {nt n k : Nat} (hU : zq_TE I nt H) (hn : n ≤ nt) (hk : k < n) : (f_X9_stands 142 (nI k) (nI n) I (zE_R b) = some 1 ∧ zq_St I n k) ∨ (f_X9_stands 142 (nI k) (nI n) I (zE_R b) = some 0 ∧ ¬ zq_St I n k) := by
  obtain ⟨h60, u1, u2, u3⟩ := hU
  unfold f_X9_stands
  simp only [zE_gC, zE_rC b, zE_sC, zw_g_t, zw_let_e, zE_in (k := k) (n := 60) (by omega) (by decide), zE_cl (k := k) (by omega), nI_1]
  by_cases hz : I 146 k = -1
  · rw [if_pos hz]
    rcases zq_ex (step := s_X9_stands_16 142 (nI k) (nI n) I (zE_R b)) (fun j => ¬ I 146 j = nI k) n (by omega) (fun j hj => by
      unfold s_X9_stands_16
      simp only [zE_gC, zE_rC b, zE_sC, zw_g_t, zw_let_e, u1, if_neg (nI_ge hj (by omega)), if_neg (nI_ge (show j < nt by omega) (by omega)), zE_in (k := j) (n := 60) (by omega) (by decide), zE_cl (k := j) (by omega), nI_1]
      by_cases h : I 146 j = nI k
      · exact Or.inr ⟨fun q => q h, if_neg (fun q => q h)⟩
      · exact Or.inl ⟨h, if_pos h⟩) (by
      unfold s_X9_stands_16
      rw [if_pos (nI_le (Nat.le_refl n) (by omega))]) (k + 1) (by omega) with ⟨h1, h2⟩ | ⟨h1, j, h2, h3, h4⟩
    · rw [h1]; exact Or.inl ⟨rfl, hz, h2⟩
    · rw [h1]; exact Or.inr ⟨rfl, fun q => h4 (q.2 j h2 h3)⟩
  · rw [if_neg hz]; exact Or.inr ⟨rfl, fun q => hz q.1⟩
theorem zq_voidM {b : Bool} {I : zI} {n k : Nat} (hn : n ≤ 60) (hk : k < n) : (f_X11_isVoid 148 (nI k) (nI n) I (zE_R b) = some 0 ∧ ∀ j, k + 1 ≤ j → j < n → ¬ I 196 j = nI k) ∨ (f_X11_isVoid 148 (nI k) (nI n) I (zE_R b) = some 1 ∧ ¬ ∀ j, k + 1 ≤ j → j < n → ¬ I 196 j = nI k) := by
  unfold f_X11_isVoid
  simp only [zw_let_e, nI_1]
  rcases zq_ex (step := s_X11_isVoid_4 148 (nI k) (nI n) I (zE_R b)) (fun j => ¬ I 196 j = nI k) n (by omega) (fun j hj => by
      unfold s_X11_isVoid_4
      simp only [zE_gM, zE_rM b, zE_sM, zw_g_t, zw_let_e, if_neg (nI_ge hj (by omega)), zE_in (k := j) (n := 60) (by omega) (by decide), zE_cl (k := j) (by omega), nI_1]
      by_cases h : I 196 j = nI k
      · exact Or.inr ⟨fun q => q h, if_neg (fun q => q h)⟩
      · exact Or.inl ⟨h, if_pos h⟩) (by
      unfold s_X11_isVoid_4
      rw [if_pos (nI_le (Nat.le_refl n) (by omega))]) (k + 1) (by omega) with ⟨h1, h2⟩ | ⟨h1, j, h2, h3, h4⟩
  · rw [h1]; exact Or.inl ⟨rfl, h2⟩
  · rw [h1]; exact Or.inr ⟨rfl, fun q => h4 (q j h2 h3)⟩
theorem zq_TE_tr {I2 I : zI} {n : Nat} {H : zq_H} (h : zq_TE I n H) (h1 : ∀ a, 142 ≤ a → a ≤ 146 → I2 a = I a) (h2 : ∀ a, 196 ≤ a → a ≤ 199 → I2 a = I a) (h3 : I2 148 75 = I 148 75) : zq_TE I2 n H := by
  obtain ⟨a1, a2, a3, a4⟩ := h
  refine ⟨a1, by rw [h1 142 (by omega) (by omega)]; exact a2, h3.trans a3, fun j hj => ?_⟩
  rw [h1 143 (by omega) (by omega), h1 144 (by omega) (by omega), h1 145 (by omega) (by omega), h1 146 (by omega) (by omega), h2 196 (by omega) (by omega), h2 197 (by omega) (by omega), h2 198 (by omega) (by omega), h2 199 (by omega) (by omega)]
  exact a4 j hj
/-- the class's barringTest -/
theorem zq_barC {b : Bool} {I : zI} {H : zq_H} {nt n s : Nat} (hK : zq_HK H) (hB : zq_BC b I H) (hU : zq_TE I nt H) (hn : n ≤ nt) (hs : s < H.ns) : ∃ r I2, f_X10_barringTest 1 (nI s) (nI n) I (zE_R b) = some (r, I2) ∧ zq_BC b I2 H ∧ zq_fC I2 I ∧ ((r = -2 ∧ ∀ k, k < n → ¬ zq_Bar I H n s k) ∨ ∃ k, k < n ∧ r = nI k ∧ zq_Bar I H n s k ∧ ∀ j, j < k → ¬ zq_Bar I H n s j) := by
  have h60 := hU.1
  obtain ⟨r, l1, l2⟩ := zE_for (step := s_X10_barringTest_2 1 (nI s) (nI n) (zE_R b)) (fun i z => z.1 = nI i ∧ zq_BC b z.2 H ∧ zq_fC z.2 I ∧ ∀ k, k < i → ¬ zq_Bar I H n s k)
    (fun r => (∃ I2, r = .inl I2 ∧ zq_BC b I2 H ∧ zq_fC I2 I ∧ ∀ k, k < n → ¬ zq_Bar I H n s k) ∨ ∃ k I2, r = .inr (nI k, I2) ∧ k < n ∧ zq_BC b I2 H ∧ zq_fC I2 I ∧ zq_Bar I H n s k ∧ ∀ j, j < k → ¬ zq_Bar I H n s j) n (by
    rintro i ⟨z1, K⟩ hi ⟨e1, e2, e3, e4⟩
    dsimp only at e1 e2 e3 e4
    subst e1
    have ht : ∀ a, 142 ≤ a → a ≤ 146 → K a = I a := fun a h1 h2 => e3 a (by omega) (by omega)
    have hUK : zq_TE K nt H := zq_TE_tr hU ht (fun a h1 h2 => e3 a (by omega) (by omega)) (by rw [e3 148 (by omega) (by omega)])
    have hSt : zq_St K n i ↔ zq_St I n i := by unfold zq_St; rw [ht 146 (by omega) (by omega)]
    have go : ∀ K2, zq_BC b K2 H → zq_fC K2 I → ¬ zq_Bar I H n s i → (∃ t, (j_X10_barringTest_78_2 1 (nI s) (nI n) (nI i) K2 (zE_R b)) = some (.inl t) ∧ t.1 = nI (i + 1) ∧ zq_BC b t.2 H ∧ zq_fC t.2 I ∧ ∀ k, k < i + 1 → ¬ zq_Bar I H n s k) := by
      intro K2 h1 h2 h3
      refine ⟨(nI i + 1, K2), rfl, nI_1 i, h1, h2, fun k hk => ?_⟩
      by_cases hki : k = i
      · rw [hki]; exact h3
      · exact e4 k (by omega)
    unfold s_X10_barringTest_2
    simp only [if_neg (nI_ge hi (by omega)), zE_gC, zE_rC b, zE_sC, zw_g_t, zE_in (k := i) (n := 60) (by omega) (by decide), zE_cl (k := i) (by omega)]
    rcases zq_standsC (b := b) hUK hn hi with ⟨h1, h2⟩ | ⟨h1, h2⟩
    · rw [h1, Option.bind_some, if_neg zE_10]
      have h2 := hSt.mp h2
      obtain ⟨-, z2⟩ := hUK.2.2.2 i (by omega)
      rcases z2 with ⟨q, q1, q2⟩ | ⟨-, c, co, br, w1, w2, w3, w4, -, w5, -, w6, -⟩
      · exfalso
        have := h2.1
        rw [← ht 146 (by omega) (by omega), q2] at this
        exact zq_nm1 (by omega) this
      · obtain ⟨I2, c1, c2, c3⟩ := zq_brC hK e2 w1 hs w2
        have w6b : I2 145 i = nI br := by rw [c3 145 (by omega) (by omega)]; exact w6
        have hfar : zq_far I H s i ↔ ¬ (if 0 ≤ nI br - zq_br H c s co then nI br - zq_br H c s co else 0 - (nI br - zq_br H c s co)) ≤ nI br / 20 + 5 := by
          unfold zq_far zq_ab
          rw [← ht 145 (by omega) (by omega), ← ht 143 (by omega) (by omega), ← ht 144 (by omega) (by omega), w4, w5, w6, zE_cl (k := c) (by have := hK.2.1; omega), zE_cl (k := co) (by omega), Int32.zero_sub]
        simp only [w4, w5, c1, Option.bind_some, zw_let_e, w6b]
        by_cases hf : zq_far I H s i
        · rw [if_neg (hfar.mp hf)]
          exact Or.inr ⟨_, rfl, Or.inr ⟨i, I2, rfl, hi, c2, c3.tr e3, ⟨h2, hf⟩, e4⟩⟩
        · rw [if_pos (Decidable.not_not.mp (fun q => hf (hfar.mpr q)))]
          exact Or.inl (go I2 c2 (c3.tr e3) (fun q => hf q.2))
    · rw [h1, Option.bind_some, if_pos rfl]
      exact Or.inl (go K e2 e3 (fun q => h2 (hSt.mpr q.1)))) (by
    rintro ⟨z1, K⟩ ⟨e1, e2, e3, e4⟩
    dsimp only at e1 e2 e3 e4
    subst e1
    unfold s_X10_barringTest_2
    refine ⟨.inl K, ?_, Or.inl ⟨K, rfl, e2, e3, e4⟩⟩
    rw [if_pos (nI_le (Nat.le_refl n) (by omega))]) 0 (0, I) (Nat.zero_le _) (by omega) ⟨rfl, hB, fun _ _ _ => rfl, fun k hk => by omega⟩
  unfold f_X10_barringTest
  rw [l1]
  rcases l2 with ⟨I2, rfl, h1, h2, h3⟩ | ⟨k, I2, rfl, hk, h1, h2, h3, h4⟩
  · exact ⟨_, _, rfl, h1, h2, Or.inl ⟨rfl, h3⟩⟩
  · exact ⟨_, _, rfl, h1, h2, Or.inr ⟨k, hk, rfl, h3, h4⟩⟩
/-- the model's barredBy; I0 is where the class's tests are read -/
theorem zq_barM {b : Bool} {I : zI} {H : zq_H} {nt n s : Nat} (hK : zq_HK H) (hM : zq_HM b I H) (hU : zq_TE I nt H) (hn : n ≤ nt) (hs : s < H.ns) : ∃ r I2, f_X11_barredBy 148 (nI s) (nI n) I (zE_R b) = some (r, I2) ∧ zq_HM b I2 H ∧ zq_fM I2 I ∧ ((r = -1 ∧ ∀ k, k < n → ¬ zq_Bar I H n s k) ∨ ∃ k, k < n ∧ r = nI k ∧ zq_Bar I H n s k ∧ ∀ j, j < k → ¬ zq_Bar I H n s j) := by
  have h60 := hU.1
  obtain ⟨r, l1, l2⟩ := zE_for (step := s_X11_barredBy_2 148 (nI s) (nI n) (zE_R b)) (fun i z => z.1 = nI i ∧ zq_HM b z.2 H ∧ zq_fM z.2 I ∧ ∀ k, k < i → ¬ zq_Bar I H n s k)
    (fun r => (∃ I2, r = .inl I2 ∧ zq_HM b I2 H ∧ zq_fM I2 I ∧ ∀ k, k < n → ¬ zq_Bar I H n s k) ∨ ∃ k I2, r = .inr (nI k, I2) ∧ k < n ∧ zq_HM b I2 H ∧ zq_fM I2 I ∧ zq_Bar I H n s k ∧ ∀ j, j < k → ¬ zq_Bar I H n s j) n (by
    rintro i ⟨z1, K⟩ hi ⟨e1, e2, e3, e4⟩
    dsimp only at e1 e2 e3 e4
    subst e1
    have ht : ∀ a, (a < 148 ∨ 186 < a) → K a = I a := fun a h1 => e3.1 a (by omega) (by omega) (by omega)
    obtain ⟨y1, y2⟩ := hU.2.2.2 i (by omega)
    have hSt : zq_St I n i ↔ K 196 i = -1 ∧ ∀ j, i + 1 ≤ j → j < n → ¬ K 196 j = nI i := by
      unfold zq_St
      rw [ht 196 (by omega), y1]
      refine and_congr Iff.rfl ⟨fun h j h1 h2 q => h j h1 h2 ((hU.2.2.2 j (by omega)).1.trans q), fun h j h1 h2 q => h j h1 h2 ((hU.2.2.2 j (by omega)).1.symm.trans q)⟩
    have go : ∀ K2, zq_HM b K2 H → zq_fM K2 I → ¬ zq_Bar I H n s i → (∃ t, (j_X11_barredBy_83_2 148 (nI s) (nI n) (nI i) K2 (zE_R b)) = some (.inl t) ∧ t.1 = nI (i + 1) ∧ zq_HM b t.2 H ∧ zq_fM t.2 I ∧ ∀ k, k < i + 1 → ¬ zq_Bar I H n s k) := by
      intro K2 h1 h2 h3
      refine ⟨(nI i + 1, K2), rfl, nI_1 i, h1, h2, fun k hk => ?_⟩
      by_cases hki : k = i
      · rw [hki]; exact h3
      · exact e4 k (by omega)
    unfold s_X11_barredBy_2 j_X11_barredBy_65_2
    simp only [if_neg (nI_ge hi (by omega)), zE_gM, zE_rM b, zE_sM, zw_g_t, zw_let_e, zE_in (k := i) (n := 60) (by omega) (by decide), zE_cl (k := i) (by omega)]
    by_cases hz : K 196 i = -1
    · rw [if_neg (fun q => q hz)]
      rcases zq_voidM (b := b) (I := K) (show n ≤ 60 by omega) hi with ⟨h1, h2⟩ | ⟨h1, h2⟩
      · rw [h1, Option.bind_some, if_pos rfl]
        have h2 := hSt.mpr ⟨hz, h2⟩
        rcases y2 with ⟨q, q1, q2⟩ | ⟨-, c, co, br, w1, w2, w3, w4, w4b, w5, w5b, w6, w6b⟩
        · exfalso
          have := h2.1
          rw [q2] at this
          exact zq_nm1 (by omega) this
        · obtain ⟨I2, c1, c2, c3⟩ := zq_brM hK e2 w1 hs w2
          have x1 : K 197 i = nI c := by rw [ht 197 (by omega)]; exact w4b
          have x2 : K 198 i = nI co := by rw [ht 198 (by omega)]; exact w5b
          have x3 : K 199 i = nI br := by rw [ht 199 (by omega)]; exact w6b
          have x4 : I2 199 i = nI br := by rw [c3.1 199 (by omega) (by omega) (by omega)]; exact x3
          have hfar : zq_far I H s i ↔ ¬ zq_ab (nI br - zq_br H c s co) ≤ nI br / 20 + 5 := by
            unfold zq_far
            rw [w4, w5, w6, zE_cl (k := c) (by have := hK.2.1; omega), zE_cl (k := co) (by omega)]
          simp only [x1, x2, x3, c1, Option.bind_some, x4]
          have fin : ∀ z, z = zq_ab (nI br - zq_br H c s co) → (∃ t, (if z ≤ nI br / 20 + 5 then j_X11_barredBy_83_2 148 (nI s) (nI n) (nI i) I2 (zE_R b) else some (.inr (.inr (nI i, I2)))) = some (.inl t) ∧ t.1 = nI (i + 1) ∧ zq_HM b t.2 H ∧ zq_fM t.2 I ∧ ∀ k, k < i + 1 → ¬ zq_Bar I H n s k) ∨ (∃ r, (if z ≤ nI br / 20 + 5 then j_X11_barredBy_83_2 148 (nI s) (nI n) (nI i) I2 (zE_R b) else some (.inr (.inr (nI i, I2)))) = some (.inr r) ∧ ((∃ I2, r = .inl I2 ∧ zq_HM b I2 H ∧ zq_fM I2 I ∧ ∀ k, k < n → ¬ zq_Bar I H n s k) ∨ ∃ k I2, r = .inr (nI k, I2) ∧ k < n ∧ zq_HM b I2 H ∧ zq_fM I2 I ∧ zq_Bar I H n s k ∧ ∀ j, j < k → ¬ zq_Bar I H n s j)) := by
            intro z hz
            subst hz
            by_cases hf : zq_far I H s i
            · rw [if_neg (hfar.mp hf)]
              exact Or.inr ⟨_, rfl, Or.inr ⟨i, I2, rfl, hi, c2, c3.tr e3, ⟨h2, hf⟩, e4⟩⟩
            · rw [if_pos (Decidable.not_not.mp (fun q => hf (hfar.mpr q)))]
              exact Or.inl (go I2 c2 (c3.tr e3) (fun q => hf q.2))
          by_cases hp : 0 ≤ nI br - zq_br H c s co
          · rw [if_pos hp]; exact fin _ (if_pos hp).symm
          · rw [if_neg hp]; exact fin _ (if_neg hp).symm
      · rw [h1, Option.bind_some, if_neg zE_10]
        exact Or.inl (go K e2 e3 (fun q => h2 (hSt.mp q.1).2))
    · rw [if_pos hz]
      exact Or.inl (go K e2 e3 (fun q => hz (hSt.mp q.1).1))) (by
    rintro ⟨z1, K⟩ ⟨e1, e2, e3, e4⟩
    dsimp only at e1 e2 e3 e4
    subst e1
    unfold s_X11_barredBy_2
    refine ⟨.inl K, ?_, Or.inl ⟨K, rfl, e2, e3, e4⟩⟩
    rw [if_pos (nI_le (Nat.le_refl n) (by omega))]) 0 (0, I) (Nat.zero_le _) (by omega) ⟨rfl, hM, zq_fM.rf I, fun k hk => by omega⟩
  unfold f_X11_barredBy
  rw [l1]
  rcases l2 with ⟨I2, rfl, h1, h2, h3⟩ | ⟨k, I2, rfl, hk, h1, h2, h3, h4⟩
  · exact ⟨_, _, rfl, h1, h2, Or.inl ⟨rfl, h3⟩⟩
  · exact ⟨_, _, rfl, h1, h2, Or.inr ⟨k, hk, rfl, h3, h4⟩⟩
/-- n is known -/
theorem zq_known {I : zI} {H : zq_H} {nt : Nat} (hU : zq_TE I nt H) (v : Int32) : (f_X9_hasFirst 142 v I = some 0 ∧ f_X11_isKnown 148 v I = some 0) ∨ ∃ n, n ≤ nt ∧ v = nI n ∧ f_X9_hasFirst 142 v I = some 1 ∧ f_X11_isKnown 148 v I = some 1 := by
  obtain ⟨h60, u1, u2, -⟩ := hU
  unfold f_X9_hasFirst f_X11_isKnown
  simp only [zE_gC, zE_gM, zw_g_t, u1, u2]
  rw [show nI nt = nI (nt + 1) - 1 from (nI_pred nt).symm]
  rcases pk_ix v (n := nt + 1) (by omega) with hv | hv | ⟨j, hj, rfl⟩
  · rw [if_pos hv, zE_in_lo hv]; exact Or.inl ⟨rfl, rfl⟩
  · rw [zE_in_hi hv (by omega)]
    refine Or.inl ⟨?_, rfl⟩
    have h9 : nI (nt + 1) - 1 < v := by
      rw [nI_pred]
      have h1 := Int32.le_iff_toInt_le.mp hv
      rw [nI_toInt (by omega)] at h1
      rw [Int32.lt_iff_toInt_lt, nI_toInt (by omega)]; omega
    rw [if_pos h9]
    split <;> rfl
  · rw [zE_in_ok hj (by omega), if_neg (nI_pos (n := j) (by omega)), nI_pred, if_neg (nI_nlt (by omega) (by omega))]
    exact Or.inr ⟨j, by omega, rfl, rfl, rfl⟩
/-- barred -/
theorem zq_barredE {b : Bool} {I : zI} {H : zq_H} {nt : Nat} (hK : zq_HK H) (hB : zq_BC b I H) (hM : zq_HM b I H) (hU : zq_TE I nt H) (v1 v2 : Int32) : ∃ r I1 I2, f_X10_barred 1 v1 v2 I (zE_R b) = some (r, I1) ∧ f_X11_barred 148 v1 v2 I1 (zE_R b) = some (r, I2) ∧ zq_BC b I2 H ∧ zq_HM b I2 H ∧ zq_oBr I2 I := by
  have k1 := hK.1
  have hl := zq_lv1 b
  have h60 := hU.1
  unfold f_X10_barred
  simp only [zE_gC, zE_rC b, zw_g_t]
  rcases zq_isStuff hK hB.1 v1 with ⟨h1, h2⟩ | ⟨s, hs, rfl, h2⟩
  · rw [h2]
    refine ⟨_, _, _, rfl, ?_, hB, hM, ⟨fun _ _ _ _ _ _ => rfl, fun _ _ => rfl⟩⟩
    unfold f_X11_barred
    simp only [zE_gM, zw_g_t, (zq_stuffRow hK hM v1).1 h1]
    rfl
  have hr := (zq_stuffRow hK hM (nI s)).2 s hs rfl
  have hm1 := zq_nm1 (n := 4 * zq_lv b + s) (by omega)
  rw [h2, Option.bind_some, if_neg zE_10]
  rcases zq_known hU v2 with ⟨h3, h4⟩ | ⟨n, hn, rfl, h3, h4⟩
  · rw [h3]
    refine ⟨_, _, _, rfl, ?_, hB, hM, ⟨fun _ _ _ _ _ _ => rfl, fun _ _ => rfl⟩⟩
    unfold f_X11_barred
    simp only [zE_gM, zw_g_t, hr, Option.bind_some, if_neg hm1, h4]
    rfl
  rw [h3, Option.bind_some, if_neg zE_10]
  obtain ⟨r1, I1, c1, c2, c3, c4⟩ := zq_barC hK hB hU hn hs
  have hM1 := zq_HM_C hM c3
  have ht : ∀ a, 142 ≤ a → a ≤ 146 → I1 a = I a := fun a h1 h2 => c3 a (by omega) (by omega)
  have hU1 : zq_TE I1 nt H := zq_TE_tr hU ht (fun a h1 h2 => c3 a (by omega) (by omega)) (by rw [c3 148 (by omega) (by omega)])
  have hBar : ∀ k, zq_Bar I1 H n s k ↔ zq_Bar I H n s k := by
    intro k
    unfold zq_Bar zq_St zq_far
    rw [ht 146 (by omega) (by omega), ht 145 (by omega) (by omega), ht 144 (by omega) (by omega), ht 143 (by omega) (by omega)]
  obtain ⟨r2, I2, m1, m2, m3, m4⟩ := zq_barM hK hM1 hU1 hn hs
  have hk1 : f_X11_isKnown 148 (nI n) I1 = some 1 := by
    rcases zq_known hU1 (nI n) with ⟨h5, h6⟩ | ⟨n2, hn2, e2, h5, h6⟩
    · exfalso
      have e0 : f_X9_hasFirst 142 (nI n) I1 = f_X9_hasFirst 142 (nI n) I := by unfold f_X9_hasFirst; rw [ht 142 (by omega) (by omega)]
      rw [e0, h3] at h5
      cases h5
    · exact h6
  rw [c1]
  have q : f_X11_barred 148 (nI s) (nI n) I1 (zE_R b) = some (r1, I2) := by
    unfold f_X11_barred
    simp only [zE_gM, zw_g_t, (zq_stuffRow hK hM1 (nI s)).2 s hs rfl, Option.bind_some, if_neg hm1, hk1, if_pos zE_10, m1]
    rcases c4 with ⟨e1, e2⟩ | ⟨k, hk, e1, e2, e3⟩ <;> rcases m4 with ⟨w1, w2⟩ | ⟨k2, hk2, w1, w2, w3⟩
    · rw [w1, e1, if_neg (fun q => q rfl)]
    · exact absurd ((hBar k2).mp w2) (e2 k2 hk2)
    · exact absurd ((hBar k).mpr e2) (w2 k hk)
    · have : k = k2 := by
        rcases Nat.lt_trichotomy k k2 with h | h | h
        · exact absurd ((hBar k).mpr e2) (w3 k h)
        · exact h
        · exact absurd ((hBar k2).mp w2) (e3 k2 h)
      subst this
      rw [w1, e1, if_pos (zq_nm1 (by omega))]
  exact ⟨_, _, I2, rfl, q, zq_BC_M hK c2 (fun a ha => m3.1 a (by omega) (by omega) (by omega)), m2, zq_oBr.of c3 m3⟩
