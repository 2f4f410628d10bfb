/-! ===== dearest ===== -/
def zr_o2 (p : Nat → Nat) : Option Nat → Int32
  | none => -2
  | some g => nI (p g)
/-- what lies, of one cut -/
noncomputable def zr_ly (f : Int32) (g j : Nat) : Int32 := if j = 1 then nI g else if j = 2 then f - f / 12 * 12 else if j = 3 then f / 12 else -1
theorem zr_lay1 {b : Bool} {I : zI} (v f : Int32) : f_X10_lay 1 1 v f I (zE_R b) = some (zw_u (zw_u (zw_u I 141 1 v) 141 2 (f - f / 12 * 12)) 141 3 (f / 12)) := by
  unfold f_X10_lay
  simp only [zE_gC, zE_rC b, zE_sC, zw_g_t, zw_let_e, show (1 : Int32) + 1 = 2 by decide, show (1 : Int32) + 2 = 3 by decide, show zw_in 1 7 = true by decide, show zw_in 2 7 = true by decide, show zw_in 3 7 = true by decide, show Int32.toNatClampNeg 1 = 1 by decide, show Int32.toNatClampNeg 2 = 2 by decide, show Int32.toNatClampNeg 3 = 3 by decide]
theorem zr_lay4 {b : Bool} {I : zI} (v f : Int32) : f_X10_lay 1 4 v f I (zE_R b) = some (zw_u (zw_u (zw_u I 141 4 v) 141 5 (f - f / 12 * 12)) 141 6 (f / 12)) := by
  unfold f_X10_lay
  simp only [zE_gC, zE_rC b, zE_sC, zw_g_t, zw_let_e, show (4 : Int32) + 1 = 5 by decide, show (4 : Int32) + 2 = 6 by decide, show zw_in 4 7 = true by decide, show zw_in 5 7 = true by decide, show zw_in 6 7 = true by decide, show Int32.toNatClampNeg 4 = 4 by decide, show Int32.toNatClampNeg 5 = 5 by decide, show Int32.toNatClampNeg 6 = 6 by decide]
theorem zr_refRo (b : Bool) {j : Nat} (hj : j < 4) : zE_R b (zE_h b) 4 = zE_h b + 3 ∧ zE_R b (zE_h b + 3) j = zE_h b + (21 + 2 * (6 + j)) ∧ zw_gc (zE_h b + 3) 16 = true ∧ zw_SH (zE_h b + 3) = (16, 4) := ⟨(zE_rH b b).2.2.1, (zE_rHr b b j hj).trans (by omega), (zE_gH b).2.2.2.1, (zE_sH b).2.2.2.1⟩
/-- the model's row of what lies, all NONE -/
theorem zr_fillM {b : Bool} {I : zI} (v1 v2 v3 v4 v5 : Int32) : ∃ I2, zw_it (s_X11_dearest_125 148 v1 v2 v3 v4 v5 (zE_R b)) 1000000 (0, I) = some I2 ∧ (∀ a, a ≠ 192 → I2 a = I a) ∧ ∀ j, j < 7 → I2 192 j = -1 := by
  refine zE_for (step := s_X11_dearest_125 148 v1 v2 v3 v4 v5 (zE_R b)) (fun i s => ∃ I', s = (nI i, I') ∧ (∀ a, a ≠ 192 → I' a = I a) ∧ ∀ j, j < i → I' 192 j = -1) (fun r => (∀ a, a ≠ 192 → r a = I a) ∧ ∀ j, j < 7 → r 192 j = -1) 7 ?_ ?_ 0 (0, I) (by decide) (by decide) ⟨I, rfl, fun _ _ => rfl, fun j hj => by omega⟩
  · rintro i s hi ⟨I', rfl, f1, f2⟩
    unfold s_X11_dearest_125
    simp only [zE_gM, zE_rM b, zE_sM, zw_g_t, if_neg (show ¬ (7 : Int32) ≤ nI i from nI_ge (b := 7) hi (by decide)), zE_in hi (by decide), zE_cl (show i < 2 ^ 31 by omega), zw_let_e, nI_1]
    refine Or.inl ⟨_, rfl, _, rfl, fun a ha => by rw [zw_u_off _ _ _ ha, f1 a ha], fun j hj => ?_⟩
    by_cases e : j = i
    · subst e; rw [zE_u1]
    · rw [zE_u2 _ _ (by omega)]; exact f2 j (by omega)
  · rintro s ⟨I', rfl, f1, f2⟩
    refine ⟨I', ?_, f1, f2⟩
    unfold s_X11_dearest_125
    dsimp only
    rw [if_pos (show (7 : Int32) ≤ nI 7 by decide)]
theorem zr_dearM {b : Bool} {I : zI} {H : zq_H} (hK : zq_HK H) (hM : zq_HM b I H) {m kr : Nat} {p : Nat → Nat} (hm : m < 64) (hkr : kr < H.nr) (hp : ∀ c, p c ≤ 1000000) (h193 : ∀ c, c < H.nc → zr_T m c = true → I 193 c = nI (p c)) (h70 : I 148 70 = 0) : ∃ I2, zw_it (s_X11_dearest_30 148 (nI m) (nI kr) (zE_R b)) 1000000 (-2, 0, I) = some (zr_o2 p (zr_bd (zr_li H m kr 0 12) p H.nc), I2) ∧ (∀ a, a ≠ 148 → a ≠ 192 → I2 a = I a) ∧ (∀ y, y ≠ 70 → I2 148 y = I 148 y) ∧ ((zr_bd (zr_li H m kr 0 12) p H.nc = none ∧ I2 148 70 = 0) ∨ ∃ g, zr_bd (zr_li H m kr 0 12) p H.nc = some g ∧ I2 148 70 = 1 ∧ ∀ j, j < 7 → I2 192 j = zr_ly (zq_fp (H.D g) (H.D (6 + kr)) 0 12) g j) := by
  have hl := zq_lv1 b
  have k2 := hK.2.1
  have k3 := hK.2.2.1
  have go := zE_for (step := s_X11_dearest_30 148 (nI m) (nI kr) (zE_R b)) (fun i s => ∃ I', s = (zr_o2 p (zr_bd (zr_li H m kr 0 12) p i), nI i, I') ∧ (∀ a, a ≠ 148 → a ≠ 192 → I' a = I a) ∧ (∀ y, y ≠ 70 → I' 148 y = I 148 y) ∧ ((zr_bd (zr_li H m kr 0 12) p i = none ∧ I' 148 70 = 0) ∨ ∃ g, zr_bd (zr_li H m kr 0 12) p i = some g ∧ I' 148 70 = 1 ∧ ∀ j, j < 7 → I' 192 j = zr_ly (zq_fp (H.D g) (H.D (6 + kr)) 0 12) g j)) (fun r => ∃ I2, r = (zr_o2 p (zr_bd (zr_li H m kr 0 12) p H.nc), I2) ∧ (∀ a, a ≠ 148 → a ≠ 192 → I2 a = I a) ∧ (∀ y, y ≠ 70 → I2 148 y = I 148 y) ∧ ((zr_bd (zr_li H m kr 0 12) p H.nc = none ∧ I2 148 70 = 0) ∨ ∃ g, zr_bd (zr_li H m kr 0 12) p H.nc = some g ∧ I2 148 70 = 1 ∧ ∀ j, j < 7 → I2 192 j = zr_ly (zq_fp (H.D g) (H.D (6 + kr)) 0 12) g j)) H.nc ?_ ?_ 0 (-2, 0, I) (by omega) (by omega) ⟨I, rfl, fun _ _ _ => rfl, fun _ _ => rfl, Or.inl ⟨rfl, h70⟩⟩
  · obtain ⟨r, w1, I2, rfl, w2⟩ := go
    exact ⟨I2, w1, w2⟩
  · rintro i s hi ⟨I', rfl, f1, f2, f3⟩
    have hM' : zq_HM b I' H := zq_HM_tr hM (fun a a1 a2 => f1 a (by omega) (by omega)) (f2 18 (by decide))
    have e1 : 10 * nI (zq_lv b) + nI i = nI (10 * zq_lv b + i) := by rw [show (10 : Int32) = nI 10 from rfl, pk_mul, nI_add]
    have fp := zq_firstM (sw := b) (I := I') (k := 10 * zq_lv b + i) (kr := 10 * zq_lv b + (6 + kr)) (by omega) (by omega) (hK.2.2.2.2 i (Or.inl hi)) (hK.2.2.2.2 (6 + kr) (Or.inr ⟨by omega, by omega⟩)) (hM'.2.2.2.2.2 i (Or.inl hi)) (hM'.2.2.2.2.2 (6 + kr) (Or.inr ⟨by omega, by omega⟩)) (a := 0) (b := 12) (by decide) (by decide)
    have fp : f_X11_firstPlace 148 (nI (10 * zq_lv b + i)) (nI (10 * zq_lv b + (6 + kr))) 0 12 I' (zE_R b) = some (zq_fp (H.D i) (H.D (6 + kr)) 0 12) := fp
    have eb : zr_bd (zr_li H m kr 0 12) p (i + 1) = match zr_bd (zr_li H m kr 0 12) p i with
      | none => if zr_li H m kr 0 12 i = true then some i else none
      | some g => if zr_li H m kr 0 12 i = true ∧ p g < p i then some i else some g := rfl
    have keep : ∀ v, j_X11_dearest_176_30 148 (nI m) (nI kr) v (nI i) I' (zE_R b) = some (.inl (v, nI (i + 1), I')) := by
      intro v
      unfold j_X11_dearest_176_30
      simp only [zw_let_e, nI_1]
    have same : zr_bd (zr_li H m kr 0 12) p (i + 1) = zr_bd (zr_li H m kr 0 12) p i → (∃ t, some (Sum.inl (β := Int32 × zI) (zr_o2 p (zr_bd (zr_li H m kr 0 12) p i), nI (i + 1), I')) = some (.inl t) ∧ ∃ I', t = (zr_o2 p (zr_bd (zr_li H m kr 0 12) p (i + 1)), nI (i + 1), I') ∧ (∀ a, a ≠ 148 → a ≠ 192 → I' a = I a) ∧ (∀ y, y ≠ 70 → I' 148 y = I 148 y) ∧ ((zr_bd (zr_li H m kr 0 12) p (i + 1) = none ∧ I' 148 70 = 0) ∨ ∃ g, zr_bd (zr_li H m kr 0 12) p (i + 1) = some g ∧ I' 148 70 = 1 ∧ ∀ j, j < 7 → I' 192 j = zr_ly (zq_fp (H.D g) (H.D (6 + kr)) 0 12) g j)) := by
      intro h
      rw [h]
      exact ⟨_, rfl, I', rfl, f1, f2, f3⟩
    unfold s_X11_dearest_30
    simp only [zE_gM, zE_rM b, zE_sM, zw_g_t, hM'.1, zE_in hl (by decide), zE_cl (show zq_lv b < 2 ^ 31 by omega), hM'.2.2.1, if_neg (nI_ge hi (by omega)), zr_bitT hm (show i < 6 by omega), keep, zE_in (show i < 6 by omega) (by decide), zE_cl (show i < 2 ^ 31 by omega)]
    cases ht : zr_T m i
    · have hli : zr_li H m kr 0 12 i = false := by unfold zr_li; rw [ht]; rfl
      rw [if_pos (show zr_b false = 0 from rfl)]
      refine Or.inl (same ?_)
      rw [eb, hli]
      cases zr_bd (zr_li H m kr 0 12) p i with
      | none => dsimp only; rw [if_neg (by decide)]
      | some g => dsimp only; rw [if_neg (fun r => absurd r.1 (by decide))]
    · have hli : zr_li H m kr 0 12 i = true ↔ ¬ zq_fp (H.D i) (H.D (6 + kr)) 0 12 = -1 := by
        unfold zr_li
        rw [ht, Bool.true_and, decide_eq_true_iff]
      rw [if_neg (show ¬ zr_b true = 0 by decide)]
      have v1 : I' 193 i = nI (p i) := by rw [f1 193 (by decide) (by decide)]; exact h193 i hi ht
      have p1 := hp i
      have h75 : ∀ v, (zq_fp (H.D i) (H.D (6 + kr)) 0 12 = -1 ∧ j_X11_dearest_75_30 148 (nI m) (nI kr) v (nI i) I' (zE_R b) = some (.inl (v, nI (i + 1), I'))) ∨ (¬ zq_fp (H.D i) (H.D (6 + kr)) 0 12 = -1 ∧ ∃ I2, j_X11_dearest_75_30 148 (nI m) (nI kr) v (nI i) I' (zE_R b) = some (.inl (nI (p i), nI (i + 1), I2)) ∧ (∀ a, a ≠ 148 → a ≠ 192 → I2 a = I a) ∧ (∀ y, y ≠ 70 → I2 148 y = I 148 y) ∧ I2 148 70 = 1 ∧ ∀ j, j < 7 → I2 192 j = zr_ly (zq_fp (H.D i) (H.D (6 + kr)) 0 12) i j) := by
        intro v
        unfold j_X11_dearest_75_30
        simp only [zE_gM, zE_rM b, zE_sM, zw_g_t, zw_let_e, (zq_roughRow hK hM' (nI kr)).2 kr hkr rfl, Option.bind_some, hM'.1, e1, fp, keep, zE_in (show i < 6 by omega) (by decide), zE_cl (show i < 2 ^ 31 by omega), v1, show zw_in 1 7 = true by decide, show zw_in 2 7 = true by decide, show zw_in 3 7 = true by decide, show Int32.toNatClampNeg 1 = 1 by decide, show Int32.toNatClampNeg 2 = 2 by decide, show Int32.toNatClampNeg 3 = 3 by decide]
        generalize zq_fp (H.D i) (H.D (6 + kr)) 0 12 = f
        by_cases hf : f = -1
        · rw [if_neg (fun q => q hf)]
          exact Or.inl ⟨hf, rfl⟩
        · rw [if_pos hf]
          obtain ⟨I2, w1, w2, w3⟩ := zr_fillM (b := b) (I := zw_u I' 148 70 1) (nI m) (nI kr) (nI (p i)) (nI i) f
          rw [w1, Option.bind_some]
          unfold j_X11_dearest_176_30
          simp only [zw_let_e, nI_1]
          refine Or.inr ⟨hf, _, rfl, fun a a1 a2 => ?_, fun y hy => ?_, ?_, fun j hj => ?_⟩
          · rw [zw_u_off _ _ _ a2, zw_u_off _ _ _ a2, zw_u_off _ _ _ a2, w2 a a2, zw_u_off _ _ _ a1, f1 a a1 a2]
          · rw [zE_u2 _ _ (by omega), zE_u2 _ _ (by omega), zE_u2 _ _ (by omega), w2 148 (by decide), zE_u2 _ _ (by omega), f2 y hy]
          · rw [zE_u2 _ _ (by omega), zE_u2 _ _ (by omega), zE_u2 _ _ (by omega), w2 148 (by decide), zE_u1]
          · unfold zr_ly
            rcases (show j = 1 ∨ j = 2 ∨ j = 3 ∨ (j ≠ 1 ∧ j ≠ 2 ∧ j ≠ 3) by omega) with rfl | rfl | rfl | ⟨j1, j2, j3⟩
            · rw [zE_u2 _ _ (by omega), zE_u2 _ _ (by omega), zE_u1]; rfl
            · rw [zE_u2 _ _ (by omega), zE_u1]; rfl
            · rw [zE_u1]; rfl
            · rw [zE_u2 _ _ (by omega), zE_u2 _ _ (by omega), zE_u2 _ _ (by omega), w3 j hj, if_neg j1, if_neg j2, if_neg j3]
      cases hg : zr_bd (zr_li H m kr 0 12) p i with
      | none =>
        rw [if_pos (show zr_o2 p none = -2 from rfl)]
        rcases h75 (zr_o2 p none) with ⟨hf, w1⟩ | ⟨hf, I2, w1, w2, w3, w4, w5⟩
        · rw [w1]
          rw [hg] at same
          refine Or.inl (same ?_)
          rw [eb, hg]
          dsimp only
          rw [if_neg (fun q => hli.mp q hf)]
        · rw [w1]
          have e2 : zr_bd (zr_li H m kr 0 12) p (i + 1) = some i := by
            rw [eb, hg]
            dsimp only
            rw [if_pos (hli.mpr hf)]
          rw [e2]
          exact Or.inl ⟨_, rfl, I2, rfl, w2, w3, Or.inr ⟨i, rfl, w4, w5⟩⟩
      | some g =>
        have p2 := hp g
        have ne : ¬ zr_o2 p (some g) = -2 := by
          show ¬ nI (p g) = -2
          intro q
          have := congrArg Int32.toInt q
          rw [nI_toInt (by omega), show (-2 : Int32).toInt = -2 by decide] at this
          omega
        rw [if_neg ne]
        show (∃ t, (if nI (p g) < I' 193 i then _ else _) = _ ∧ _) ∨ _
        rw [v1]
        rw [hg] at same
        by_cases hlt : p g < p i
        · rw [if_pos (nI_lt hlt (by omega))]
          rcases h75 (zr_o2 p (some g)) with ⟨hf, w1⟩ | ⟨hf, I2, w1, w2, w3, w4, w5⟩
          · rw [w1]
            refine Or.inl (same ?_)
            rw [eb, hg]
            dsimp only
            rw [if_neg (fun q => hli.mp q.1 hf)]
          · rw [w1]
            have e2 : zr_bd (zr_li H m kr 0 12) p (i + 1) = some i := by
              rw [eb, hg]
              dsimp only
              rw [if_pos ⟨hli.mpr hf, hlt⟩]
            rw [e2]
            exact Or.inl ⟨_, rfl, I2, rfl, w2, w3, Or.inr ⟨i, rfl, w4, w5⟩⟩
        · rw [if_neg (nI_nlt (show p i ≤ p g by omega) (by omega))]
          refine Or.inl (same ?_)
          rw [eb, hg]
          dsimp only
          rw [if_neg (fun q => hlt q.2)]
  · rintro s ⟨I', rfl, f1, f2, f3⟩
    have hM' : zq_HM b I' H := zq_HM_tr hM (fun a a1 a2 => f1 a (by omega) (by omega)) (f2 18 (by decide))
    unfold s_X11_dearest_30
    simp only [zE_gM, zE_rM b, zE_sM, zw_g_t, hM'.1, zE_in hl (by decide), zE_cl (show zq_lv b < 2 ^ 31 by omega), hM'.2.2.1, if_pos (nI_le (Nat.le_refl H.nc) (by omega))]
    exact ⟨_, rfl, I', rfl, f1, f2, f3⟩
def zr_oD (I2 I : zI) : Prop := (∀ a, (a < 132 ∨ 141 < a) → a ≠ 148 → (a < 182 ∨ 186 < a) → (a < 192 ∨ 195 < a) → I2 a = I a) ∧ ∀ y, y ≠ 51 → (y < 54 ∨ 59 < y) → y ≠ 70 → I2 148 y = I 148 y
theorem zr_oD.rf (I : zI) : zr_oD I I := ⟨fun _ _ _ _ _ => rfl, fun _ _ _ _ => rfl⟩
/-- dearest -/
theorem zr_dearestE {b : Bool} {I : zI} {H : zq_H} {Q : zr_Q} (hK : zq_HK H) (hC : zq_HC b I H) (hM : zq_HM b I H) (hT : zq_TL I) (hQ : zr_QK Q) (hQC : zr_QC b I Q) (hQM : zr_QM b I Q) (hL : zE_L I) (v1 v2 v3 : Int32) : ∃ r I1 I2, f_X10_dearest 1 v1 v2 v3 I (zE_R b) = some (r, I1) ∧ f_X11_dearest 148 v1 v2 v3 I1 (zE_R b) = some (r, I2) ∧ zE_L I2 ∧ zq_TL I2 ∧ zr_oD I2 I := by
  have hb := zE_hb b
  have k1 := hK.1
  have k2 := hK.2.1
  have k3 := hK.2.2.1
  have h64 : 2 ^ H.nc ≤ 64 := Nat.pow_le_pow_right (n := 2) (by decide) k2
  have no : f_X11_isAsked 148 v1 v2 v3 I (zE_R b) = some 0 → f_X11_dearest 148 v1 v2 v3 I (zE_R b) = some (-1, I) := by
    intro h
    unfold f_X11_dearest
    rw [zr_M1g.1, zw_g_t, h, Option.bind_some, if_neg (fun q => q rfl)]
  obtain ⟨a1, a2⟩ := zr_askedM hK hM v1 v2 v3
  unfold f_X10_dearest
  simp only [zE_gC, zw_g_t]
  rcases zr_asked hK hC v1 with ⟨h1, h2⟩ | ⟨m, h0, hm, h1, h2⟩ | ⟨m, h0, h1, hm, h2⟩
  · rw [h2]
    exact ⟨_, _, I, rfl, no (a1 h1), hL, hT, zr_oD.rf I⟩
  · rw [h2]
    exact ⟨_, _, I, rfl, no ((a2 m h0 hm).1 h1), hL, hT, zr_oD.rf I⟩
  obtain ⟨-, a4, a5⟩ := a2 m h0 (by omega)
  rw [h2, Option.bind_some, if_neg zE_10]
  rcases zq_isRough hK hC v2 with ⟨h3, h4⟩ | ⟨kr, hkr, hv2, h4⟩
  · rw [h4]
    exact ⟨_, _, I, rfl, no (a4 h1 h3), hL, hT, zr_oD.rf I⟩
  obtain ⟨a6, a7⟩ := a5 h1 kr hkr hv2
  rw [h4, Option.bind_some, if_neg zE_10]
  rcases zq_isStuff hK hC v3 with ⟨h5, h6⟩ | ⟨s, hs, hv3, h6⟩
  · rw [h6]
    exact ⟨_, _, I, rfl, no (a6 h5), hL, hT, zr_oD.rf I⟩
  have ask := a7 s hs hv3
  rw [h6, Option.bind_some, if_pos zE_10]
  subst h0 hv2 hv3
  obtain ⟨I3, c1, c2, c3, c4⟩ := zr_findC hK hC hT hQ hQC hm hs
  obtain ⟨p, ep⟩ : ∃ p, p = zr_p H Q s := ⟨_, rfl⟩
  have hp : ∀ c, p c ≤ 1000000 := fun c => by rw [ep]; exact (zr_Pp H Q s c).2
  have c4 : ∀ c, c < H.nc → zr_T m c = true → I3 140 c = nI (p c) := fun c x y => by rw [ep]; exact c4 c x y
  obtain ⟨I4, e4⟩ : ∃ I4, I4 = zq_fl I3 141 7 (-1) := ⟨_, rfl⟩
  have fi : f_J7_fill_53178 141 (-1) I3 = some I4 := by
    rw [e4]
    exact zq_fill (t := 13) (-1) (by simp only [zE_gC]) (by simp only [zE_sC]) (by decide)
  have f4 : ∀ a, a ≠ 141 → I4 a = I3 a := fun a ha => by rw [e4]; exact zq_fl_o ha
  have l4 : ∀ j, j < 7 → I4 141 j = -1 := fun j hj => by rw [e4]; exact zq_fl_a hj
  have fc : ∀ a, (a < 132 ∨ 141 < a) → I4 a = I a := fun a ha => (f4 a (by omega)).trans (c2 a (by omega))
  have hC4 : zq_HC b I4 H := zq_HC_tr hK hC (fun a x y => fc a (by omega))
  obtain ⟨r1, r2, g1, s1⟩ := zr_refRo b (j := kr) (by omega)
  have okr := hK.2.2.2.2 (6 + kr) (Or.inr ⟨by omega, by omega⟩)
  obtain ⟨dce, -⟩ := hC4.2.2.2.2 (6 + kr) (Or.inr ⟨by omega, by omega⟩)
  have ew := okr.w2
  have dw := zr_dwC (b := b) (I := I4) hK hC4 (a := 0) (e := (H.D (6 + kr)).w) hm hkr hp (fun c x y => by rw [f4 140 (by decide)]; exact c4 c x y) (by decide) ew
  have li : zr_bd (zr_li H m kr 0 (H.D (6 + kr)).w) p H.nc = zr_bd (zr_li H m kr 0 12) p H.nc := by
    have : ∀ n, n ≤ H.nc → zr_bd (zr_li H m kr 0 (H.D (6 + kr)).w) p n = zr_bd (zr_li H m kr 0 12) p n := by
      intro n
      induction n with
      | zero => intro _; rfl
      | succ n ih =>
        intro hn
        have e1 : zr_li H m kr 0 (H.D (6 + kr)).w n = zr_li H m kr 0 12 n := by
          unfold zr_li
          rw [zq_fp_w (hK.2.2.2.2 n (Or.inl (by omega))) okr]
        unfold zr_bd
        rw [ih (by omega), e1]
    exact this _ (Nat.le_refl _)
  rw [li] at dw
  have dw : f_X10_dearestWithin 1 (nI m) (zE_h b + (21 + 2 * (6 + kr))) 0 (nI (H.D (6 + kr)).w) I4 (zE_R b) = some (zr_o1 (zr_bd (zr_li H m kr 0 12) p H.nc)) := dw
  -- the model, over any heap that the class leaves
  have model : ∀ I1, (∀ a, (a < 132 ∨ 141 < a) → I1 a = I a) → ∃ I2, f_X11_dearest 148 (nI m) (nI kr) (nI s) I1 (zE_R b) = some (zr_o2 p (zr_bd (zr_li H m kr 0 12) p H.nc), I2) ∧ (∀ a, a ≠ 148 → (a < 182 ∨ 186 < a) → (a < 192 ∨ 193 < a) → I2 a = I1 a) ∧ (∀ y, y ≠ 51 → (y < 54 ∨ 59 < y) → y ≠ 70 → I2 148 y = I1 148 y) ∧ ((zr_bd (zr_li H m kr 0 12) p H.nc = none ∧ I2 148 70 = 0) ∨ ∃ g, zr_bd (zr_li H m kr 0 12) p H.nc = some g ∧ I2 148 70 = 1 ∧ ∀ j, j < 7 → I2 192 j = zr_ly (zq_fp (H.D g) (H.D (6 + kr)) 0 12) g j) := by
    intro I1 hf
    have hM1 : zq_HM b I1 H := zq_HM_tr hM (fun a x y => hf a (by omega)) (by rw [hf 148 (by decide)])
    have hQM1 : zr_QM b I1 Q := zr_QM_tr hQM (fun a x y => hf a (by omega))
    have ask1 : f_X11_isAsked 148 (nI m) (nI kr) (nI s) I1 (zE_R b) = some 1 := ((((zr_askedM hK hM1 (nI m) (nI kr) (nI s)).2 m rfl (by omega)).2.2 h1 kr hkr rfl).2 s hs rfl)
    obtain ⟨I5, m1, m2, m3, m4⟩ := zr_pricesM hK hM1 hQ hQM1 hm hs
    obtain ⟨I6, e6⟩ : ∃ I6, I6 = zw_u I5 148 70 0 := ⟨_, rfl⟩
    have f6 : ∀ a, a ≠ 148 → I6 a = I5 a := fun a ha => by rw [e6, zw_u_off _ _ _ ha]
    have f6b : ∀ y, y ≠ 70 → I6 148 y = I5 148 y := fun y hy => by rw [e6, zE_u2 _ _ (by omega)]
    have hM6 : zq_HM b I6 H := zq_HM_tr hM1 (fun a x y => (f6 a (by omega)).trans (m2 a (by omega) (by omega) (by omega))) ((f6b 18 (by decide)).trans (m3 18 (by decide) (by decide)))
    obtain ⟨I7, w1, w2, w3, w4⟩ := zr_dearM hK hM6 (p := p) hm hkr hp (fun c x y => by rw [f6 193 (by decide), ep]; exact m4 c x y) (by rw [e6, zE_u1])
    refine ⟨I7, ?_, fun a x y z => (w2 a x (by omega)).trans ((f6 a x).trans (m2 a x y (by omega))), fun y x z u => (w3 y u).trans ((f6b y u).trans (m3 y x z)), w4⟩
    unfold f_X11_dearest
    simp only [zE_gM, zw_g_t, ask1, Option.bind_some, if_pos zE_10, m1, zw_let_e, ← e6, w1]
  simp only [zE_gC, zE_rC b, zw_g_t, c1, Option.bind_some, fi, (zE_rh b).1, (zE_gH b).1, r1, g1, s1, zE_in (show kr < 4 by omega) (by decide), zE_cl (show kr < 2 ^ 31 by omega), r2, (zE_sHdr b (6 + kr) (by omega)).2, dce.w, dw]
  cases hg : zr_bd (zr_li H m kr 0 12) p H.nc with
  | none =>
    rw [if_neg (fun q => q rfl)]
    obtain ⟨I2, m1, m2, m3, m4⟩ := model I4 fc
    rw [hg] at m1 m4
    refine ⟨_, _, I2, rfl, m1, ?_, zq_TL_tr c3 (by rw [m2 132 (by decide) (by decide) (by decide), f4 132 (by decide)]), ⟨fun a x y z u => (m2 a y z (by omega)).trans (fc a x), fun y x z u => (m3 y x z u).trans (by rw [fc 148 (by decide)])⟩⟩
    rcases m4 with ⟨-, m4⟩ | ⟨g, m4, -⟩
    · exact Or.inl ⟨m4, fun j hj => by rw [m2 141 (by decide) (by decide) (by decide)]; exact l4 j hj⟩
    · cases m4
  | some g =>
    obtain ⟨i1, i2, -⟩ := zr_bd_some hg
    have tg : zr_T m g = true := by
      unfold zr_li at i2
      rw [Bool.and_eq_true] at i2
      exact i2.1
    obtain ⟨q1, q2, q3, q4, q5, q6⟩ := zq_refC b (j := g) (by omega)
    obtain ⟨dc, dx⟩ := hC4.2.2.2.2 g (Or.inl i1)
    have fp := zq_firstC (b := b) (I := I4) (zq_drk b b g (by omega)) (zq_drk b b (6 + kr) (by omega)) (hK.2.2.2.2 g (Or.inl i1)) okr dc dx dce (a := 0) (c := (H.D (6 + kr)).w) (by decide) ew
    rw [zq_fp_w (hK.2.2.2.2 g (Or.inl i1)) okr] at fp
    have fp : f_X10_firstPlace (zE_h b + (21 + 2 * g)) (zE_h b + (21 + 2 * (6 + kr))) 0 (nI (H.D (6 + kr)).w) I4 (zE_R b) = some (zq_fp (H.D g) (H.D (6 + kr)) 0 12) := fp
    show ∃ r I1 I2, (if ¬ nI g = -1 then _ else _) = _ ∧ _
    rw [if_pos (zq_nm1 (by omega))]
    simp only [zr_o1, q2, q3, q5, q6, zE_sC, zE_in (show g < 6 by omega) (by decide), zE_cl (show g < 2 ^ 31 by omega), (zE_sHdr b g (by omega)).2, zw_g_t, fp, Option.bind_some, zr_lay1]
    obtain ⟨f, ef⟩ : ∃ f, f = zq_fp (H.D g) (H.D (6 + kr)) 0 12 := ⟨_, rfl⟩
    rw [← ef]
    obtain ⟨I5, e5⟩ : ∃ I5, I5 = zw_u (zw_u (zw_u I4 141 1 (nI g)) 141 2 (f - f / 12 * 12)) 141 3 (f / 12) := ⟨_, rfl⟩
    rw [← e5]
    have f5 : ∀ a, a ≠ 141 → I5 a = I4 a := fun a ha => by rw [e5, zw_u_off _ _ _ ha, zw_u_off _ _ _ ha, zw_u_off _ _ _ ha]
    have v5 : I5 140 g = nI (p g) := by rw [f5 140 (by decide), f4 140 (by decide)]; exact c4 g i1 tg
    obtain ⟨I2, m1, m2, m3, m4⟩ := model I5 (fun a ha => (f5 a (by omega)).trans (fc a ha))
    rw [hg] at m1 m4
    refine ⟨_, _, I2, rfl, by rw [v5]; exact m1, ?_, zq_TL_tr c3 (by rw [m2 132 (by decide) (by decide) (by decide), f5 132 (by decide), f4 132 (by decide)]), ⟨fun a x y z u => (m2 a y z (by omega)).trans ((f5 a (by omega)).trans (fc a x)), fun y x z u => (m3 y x z u).trans (by rw [f5 148 (by decide), fc 148 (by decide)])⟩⟩
    rcases m4 with ⟨m4, -⟩ | ⟨g2, m4, m5, m6⟩
    · cases m4
    · cases m4
      refine Or.inr ⟨m5, fun j hj => ?_⟩
      rw [m6 j hj, m2 141 (by decide) (by decide) (by decide), e5, ← ef]
      unfold zr_ly
      rcases (show j = 1 ∨ j = 2 ∨ j = 3 ∨ (j ≠ 1 ∧ j ≠ 2 ∧ j ≠ 3) by omega) with rfl | rfl | rfl | ⟨j1, j2, j3⟩
      · rw [zE_u2 _ _ (by omega), zE_u2 _ _ (by omega), zE_u1]; rfl
      · rw [zE_u2 _ _ (by omega), zE_u1]; rfl
      · rw [zE_u1]; rfl
      · rw [zE_u2 _ _ (by omega), zE_u2 _ _ (by omega), zE_u2 _ _ (by omega), l4 j hj, if_neg j1, if_neg j2, if_neg j3]
