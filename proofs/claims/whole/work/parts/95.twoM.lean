/-! ===== two: the model ===== -/
def zr_lo (t : Bool) (f : Int32) : Int32 := if t = true then f else -1
theorem zr_lo_li (t : Bool) (f : Int32) : zr_lo t f = -1 ↔ ¬ (t && decide (f ≠ -1)) = true := by
  unfold zr_lo
  cases t
  · rw [if_neg (by decide), Bool.false_and]
    exact ⟨fun _ => by decide, fun _ => rfl⟩
  · rw [if_pos rfl, Bool.true_and, decide_eq_true_iff]
    exact ⟨fun h q => q h, fun h => Classical.byContradiction h⟩
theorem zr_t52 {b : Bool} {I : zI} {H : zq_H} (hK : zq_HK H) (hM : zq_HM b I H) {m kr saw : Nat} (v4 : Int32) (hm : m < 64) (hkr : kr < H.nr) (hsaw : saw ≤ 12) : ∃ I2, zw_it (s_X11_two_52 148 (nI m) v4 (nI (10 * zq_lv b + (6 + kr))) (nI saw) (zE_R b)) 1000000 (0, I) = some I2 ∧ (∀ a, a ≠ 194 → a ≠ 195 → I2 a = I a) ∧ ∀ c, c < H.nc → I2 194 c = zr_lo (zr_T m c) (zq_fp (H.D c) (H.D (6 + kr)) 0 saw) ∧ I2 195 c = zr_lo (zr_T m c) (zq_fp (H.D c) (H.D (6 + kr)) saw 12) := by
  have hl := zq_lv1 b
  have k2 := hK.2.1
  have k3 := hK.2.2.1
  have okr := hK.2.2.2.2 (6 + kr) (Or.inr ⟨by omega, by omega⟩)
  refine zE_for (step := s_X11_two_52 148 (nI m) v4 (nI (10 * zq_lv b + (6 + kr))) (nI saw) (zE_R b)) (fun i s => ∃ I', s = (nI i, I') ∧ (∀ a, a ≠ 194 → a ≠ 195 → I' a = I a) ∧ ∀ c, c < i → I' 194 c = zr_lo (zr_T m c) (zq_fp (H.D c) (H.D (6 + kr)) 0 saw) ∧ I' 195 c = zr_lo (zr_T m c) (zq_fp (H.D c) (H.D (6 + kr)) saw 12)) (fun r => (∀ a, a ≠ 194 → a ≠ 195 → r a = I a) ∧ ∀ c, c < H.nc → r 194 c = zr_lo (zr_T m c) (zq_fp (H.D c) (H.D (6 + kr)) 0 saw) ∧ r 195 c = zr_lo (zr_T m c) (zq_fp (H.D c) (H.D (6 + kr)) saw 12)) H.nc ?_ ?_ 0 (0, I) (by omega) (by omega) ⟨I, rfl, fun _ _ _ => rfl, fun j hj => by omega⟩
  · rintro i s hi ⟨I', rfl, f1, f2⟩
    have hM' : zq_HM b I' H := zq_HM_tr hM (fun a a1 a2 => f1 a (by omega) (by omega)) (by rw [f1 148 (by decide) (by decide)])
    have e1 : 10 * nI (zq_lv b) + nI i = nI (10 * zq_lv b + i) := by rw [show (10 : Int32) = nI 10 from rfl, pk_mul, nI_add]
    have fl := zq_firstM (sw := b) (I := I') (k := 10 * zq_lv b + i) (kr := 10 * zq_lv b + (6 + kr)) (by omega) (by omega) (hK.2.2.2.2 i (Or.inl hi)) okr (hM'.2.2.2.2.2 i (Or.inl hi)) (hM'.2.2.2.2.2 (6 + kr) (Or.inr ⟨by omega, by omega⟩)) (a := 0) (b := saw) (by decide) hsaw
    have fl : f_X11_firstPlace 148 (nI (10 * zq_lv b + i)) (nI (10 * zq_lv b + (6 + kr))) 0 (nI saw) I' (zE_R b) = _ := fl
    obtain ⟨vl, el⟩ : ∃ vl, vl = zq_fp (H.D i) (H.D (6 + kr)) 0 saw := ⟨_, rfl⟩
    rw [← el] at fl
    obtain ⟨vr, er⟩ : ∃ vr, vr = zq_fp (H.D i) (H.D (6 + kr)) saw 12 := ⟨_, rfl⟩
    have fr : ∀ v, f_X11_firstPlace 148 (nI (10 * zq_lv b + i)) (nI (10 * zq_lv b + (6 + kr))) (nI saw) 12 (zw_u I' 194 i v) (zE_R b) = some vr := by
      intro v
      have hM2 : zq_HM b (zw_u I' 194 i v) H := zq_HM_tr hM' (fun a a1 a2 => zw_u_off _ _ _ (by omega)) (by rw [zw_u_off _ _ _ (by decide)])
      have fr := zq_firstM (sw := b) (I := zw_u I' 194 i v) (k := 10 * zq_lv b + i) (kr := 10 * zq_lv b + (6 + kr)) (by omega) (by omega) (hK.2.2.2.2 i (Or.inl hi)) okr (hM2.2.2.2.2.2 i (Or.inl hi)) (hM2.2.2.2.2.2 (6 + kr) (Or.inr ⟨by omega, by omega⟩)) (a := saw) (b := 12) hsaw (by decide)
      rw [er]
      exact fr
    have u18 : ∀ v, zw_u I' 194 i v 148 18 = nI (zq_lv b) := fun v => by rw [zw_u_off _ _ _ (by decide)]; exact hM'.1
    have fin : ∀ v w : Int32, v = zr_lo (zr_T m i) vl → w = zr_lo (zr_T m i) vr → (∀ a, a ≠ 194 → a ≠ 195 → zw_u (zw_u I' 194 i v) 195 i w a = I a) ∧ ∀ c, c < i + 1 → zw_u (zw_u I' 194 i v) 195 i w 194 c = zr_lo (zr_T m c) (zq_fp (H.D c) (H.D (6 + kr)) 0 saw) ∧ zw_u (zw_u I' 194 i v) 195 i w 195 c = zr_lo (zr_T m c) (zq_fp (H.D c) (H.D (6 + kr)) saw 12) := by
      intro v w hv hw
      refine ⟨fun a a1 a2 => by rw [zw_u_off _ _ _ a2, zw_u_off _ _ _ a1, f1 a a1 a2], fun c hc => ?_⟩
      by_cases e : c = i
      · subst e
        rw [zw_u_off _ _ _ (show (194 : Nat) ≠ 195 by decide), zE_u1, zE_u1, ← el, ← er]
        exact ⟨hv, hw⟩
      · rw [zw_u_off _ _ _ (show (194 : Nat) ≠ 195 by decide), zE_u2 _ _ (by omega), zE_u2 _ _ (by omega), zw_u_off _ _ _ (show (195 : Nat) ≠ 194 by decide)]
        exact f2 c (by omega)
    unfold s_X11_two_52 j_X11_two_104_52 j_X11_two_144_52
    simp only [zE_gM, zE_rM b, zE_sM, zw_g_t, zw_let_e, hM'.1, zE_in hl (by decide), zE_cl (show zq_lv b < 2 ^ 31 by omega), hM'.2.2.1, if_neg (nI_ge hi (by omega)), zr_bitT hm (show i < 6 by omega), e1, fl, Option.bind_some, u18, fr, zE_in (show i < 6 by omega) (by decide), zE_cl (show i < 2 ^ 31 by omega), nI_1]
    cases ht : zr_T m i
    · rw [ht] at fin
      rw [if_neg (show ¬ ¬ zr_b false = 0 from fun q => q rfl), if_neg (show ¬ ¬ zr_b false = 0 from fun q => q rfl)]
      exact Or.inl ⟨_, rfl, _, rfl, fin (-1) (-1) rfl rfl⟩
    · rw [ht] at fin
      rw [if_pos (show ¬ zr_b true = 0 by decide)]
      simp only [if_pos (show ¬ zr_b true = 0 by decide)]
      exact Or.inl ⟨_, rfl, _, rfl, fin vl vr rfl rfl⟩
  · rintro s ⟨I', rfl, f1, f2⟩
    have hM' : zq_HM b I' H := zq_HM_tr hM (fun a a1 a2 => f1 a (by omega) (by omega)) (by rw [f1 148 (by decide) (by decide)])
    refine ⟨I', ?_, f1, f2⟩
    unfold s_X11_two_52
    simp only [zE_gM, zE_rM b, zE_sM, zw_g_t, hM'.1, zE_in hl (by decide), zE_cl (show zq_lv b < 2 ^ 31 by omega), hM'.2.2.1, if_pos (nI_le (Nat.le_refl H.nc) (by omega))]
/-- what the model has laid -/
def zr_ml (H : zq_H) (kr : Nat) (I : zI) (Y : zr_X) : Prop := (Y = none ∧ I 148 70 = 0) ∨ ∃ x, Y = some x ∧ I 148 70 = 1 ∧ ∀ j, j < 7 → I 192 j = zr_l7 H kr x j
def zr_mf (I2 I : zI) : Prop := (∀ a, a ≠ 148 → a ≠ 192 → I2 a = I a) ∧ ∀ y, y ≠ 70 → I2 148 y = I 148 y
theorem zr_mf.rf (I : zI) : zr_mf I I := ⟨fun _ _ _ => rfl, fun _ _ => rfl⟩
theorem zr_mf.tr {I3 I2 I : zI} (h : zr_mf I3 I2) (h1 : zr_mf I2 I) : zr_mf I3 I := ⟨fun a ha hb => (h.1 a ha hb).trans (h1.1 a ha hb), fun y hy => (h.2 y hy).trans (h1.2 y hy)⟩
theorem zr_t237 {b : Bool} {I : zI} {H : zq_H} {m kr saw c d : Nat} {p : Nat → Nat} {v5 : Int32} (hc : c < 6) (hd : d < 6) (h1 : I 193 c = nI (p c)) (h2 : I 193 d = nI (p d)) (h3 : I 194 c = zq_fp (H.D c) (H.D (6 + kr)) 0 saw) (h4 : I 195 d = zq_fp (H.D d) (H.D (6 + kr)) saw 12) : ∃ I2, j_X11_two_237_171 148 (nI m) v5 (nI saw) (nI c) (nI d) I (zE_R b) = some (.inl (nI (p c + p d), nI (d + 1), I2)) ∧ zr_mf I2 I ∧ zr_ml H kr I2 (some (saw, c, d)) := by
  have u1 : ∀ (f : zI) (k : Nat) (v : Int32), zw_u f 192 k v 194 = f 194 := fun f k v => zw_u_off f k v (by decide)
  have u2 : ∀ (f : zI) (k : Nat) (v : Int32), zw_u f 192 k v 195 = f 195 := fun f k v => zw_u_off f k v (by decide)
  have u3 : ∀ (f : zI) (k : Nat) (v : Int32), zw_u f 148 k v 194 = f 194 := fun f k v => zw_u_off f k v (by decide)
  have u4 : ∀ (f : zI) (k : Nat) (v : Int32), zw_u f 148 k v 195 = f 195 := fun f k v => zw_u_off f k v (by decide)
  unfold j_X11_two_237_171 j_X11_two_348_171
  obtain ⟨fl, el⟩ : ∃ fl, fl = zq_fp (H.D c) (H.D (6 + kr)) 0 saw := ⟨_, rfl⟩
  obtain ⟨fr, er⟩ : ∃ fr, fr = zq_fp (H.D d) (H.D (6 + kr)) saw 12 := ⟨_, rfl⟩
  rw [← el] at h3
  rw [← er] at h4
  simp only [zE_gM, zE_rM b, zE_sM, zw_g_t, zw_let_e, zE_in hc (by decide), zE_cl (show c < 2 ^ 31 by omega), zE_in hd (by decide), zE_cl (show d < 2 ^ 31 by omega), h1, h2, u1, u2, u3, u4, h3, h4, nI_add, nI_1, show zw_in 0 7 = true by decide, show zw_in 1 7 = true by decide, show zw_in 2 7 = true by decide, show zw_in 3 7 = true by decide, show zw_in 4 7 = true by decide, show zw_in 5 7 = true by decide, show zw_in 6 7 = true by decide, show Int32.toNatClampNeg 0 = 0 by decide, show Int32.toNatClampNeg 1 = 1 by decide, show Int32.toNatClampNeg 2 = 2 by decide, show Int32.toNatClampNeg 3 = 3 by decide, show Int32.toNatClampNeg 4 = 4 by decide, show Int32.toNatClampNeg 5 = 5 by decide, show Int32.toNatClampNeg 6 = 6 by decide]
  refine ⟨_, rfl, ⟨fun a a1 a2 => ?_, fun y hy => ?_⟩, Or.inr ⟨_, rfl, ?_, fun j hj => ?_⟩⟩
  · rw [zw_u_off _ _ _ a2, zw_u_off _ _ _ a2, zw_u_off _ _ _ a2, zw_u_off _ _ _ a2, zw_u_off _ _ _ a2, zw_u_off _ _ _ a2, zw_u_off _ _ _ a2, zw_u_off _ _ _ a1]
  · rw [zE_u2 _ _ (by omega), zE_u2 _ _ (by omega), zE_u2 _ _ (by omega), zE_u2 _ _ (by omega), zE_u2 _ _ (by omega), zE_u2 _ _ (by omega), zE_u2 _ _ (by omega), zE_u2 _ _ (by omega)]
  · rw [zE_u2 _ _ (by omega), zE_u2 _ _ (by omega), zE_u2 _ _ (by omega), zE_u2 _ _ (by omega), zE_u2 _ _ (by omega), zE_u2 _ _ (by omega), zE_u2 _ _ (by omega), zE_u1]
  · unfold zr_l7
    dsimp only
    rw [← el, ← er]
    rcases (show j = 0 ∨ j = 1 ∨ j = 2 ∨ j = 3 ∨ j = 4 ∨ j = 5 ∨ j = 6 by omega) with rfl | rfl | rfl | rfl | rfl | rfl | rfl
    · rw [zE_u2 _ _ (by omega), zE_u2 _ _ (by omega), zE_u2 _ _ (by omega), zE_u2 _ _ (by omega), zE_u2 _ _ (by omega), zE_u2 _ _ (by omega), zE_u1]; rfl
    · rw [zE_u2 _ _ (by omega), zE_u2 _ _ (by omega), zE_u2 _ _ (by omega), zE_u2 _ _ (by omega), zE_u2 _ _ (by omega), zE_u1]; rfl
    · rw [zE_u2 _ _ (by omega), zE_u2 _ _ (by omega), zE_u2 _ _ (by omega), zE_u2 _ _ (by omega), zE_u1]; rfl
    · rw [zE_u2 _ _ (by omega), zE_u2 _ _ (by omega), zE_u2 _ _ (by omega), zE_u1]; rfl
    · rw [zE_u2 _ _ (by omega), zE_u2 _ _ (by omega), zE_u1]; rfl
    · rw [zE_u2 _ _ (by omega), zE_u1]; rfl
    · rw [zE_u1]; rfl
theorem zr_t171 {b : Bool} {I : zI} {H : zq_H} (hK : zq_HK H) (hM : zq_HM b I H) {m kr saw c : Nat} {p : Nat → Nat} {X Y : zr_X} {v5 : Int32} (hc : c < H.nc) (hp : ∀ c, p c ≤ 1000000) (h193 : ∀ c, c < H.nc → zr_T m c = true → I 193 c = nI (p c)) (h19 : ∀ c, c < H.nc → I 194 c = zr_lo (zr_T m c) (zq_fp (H.D c) (H.D (6 + kr)) 0 saw) ∧ I 195 c = zr_lo (zr_T m c) (zq_fp (H.D c) (H.D (6 + kr)) saw 12)) (hY : zr_ml H kr I Y) (hI : zr_In (zr_li H m kr 0 saw) (zr_li H m kr saw 12) p H.nc saw X c 0 Y) : ∃ I2 Y2, zw_it (s_X11_two_171 148 (nI m) v5 (nI saw) (nI c) (zE_R b)) 1000000 (zr_xv p Y, 0, I) = some (zr_xv p Y2, I2) ∧ zr_mf I2 I ∧ zr_ml H kr I2 Y2 ∧ zr_In (zr_li H m kr 0 saw) (zr_li H m kr saw 12) p H.nc saw X (c + 1) 0 Y2 := by
  have hl := zq_lv1 b
  have k2 := hK.2.1
  have go := zE_for (step := s_X11_two_171 148 (nI m) v5 (nI saw) (nI c) (zE_R b)) (fun d s => ∃ I' Y', s = (zr_xv p Y', nI d, I') ∧ zr_mf I' I ∧ zr_ml H kr I' Y' ∧ zr_In (zr_li H m kr 0 saw) (zr_li H m kr saw 12) p H.nc saw X c d Y') (fun r => ∃ I' Y', r = (zr_xv p Y', I') ∧ zr_mf I' I ∧ zr_ml H kr I' Y' ∧ zr_In (zr_li H m kr 0 saw) (zr_li H m kr saw 12) p H.nc saw X (c + 1) 0 Y') H.nc ?_ ?_ 0 (zr_xv p Y, 0, I) (by omega) (by omega) ⟨I, Y, rfl, zr_mf.rf I, hY, hI⟩
  · obtain ⟨r, q1, I2, Y2, rfl, q2⟩ := go
    exact ⟨I2, Y2, q1, q2⟩
  · rintro d s hd ⟨I', Y', rfl, f1, f2, f3⟩
    have hM' : zq_HM b I' H := zq_HM_tr hM (fun a a1 a2 => f1.1 a (by omega) (by omega)) (f1.2 18 (by decide))
    have g1 := (h19 c hc).1
    have g2 := (h19 d hd).2
    rw [← f1.1 194 (by decide) (by decide)] at g1
    rw [← f1.1 195 (by decide) (by decide)] at g2
    have st := zr_In_st hc hd f3
    have keep : ∀ v, j_X11_two_348_171 148 (nI m) v v5 (nI saw) (nI c) (nI d) I' (zE_R b) = some (.inl (v, nI (d + 1), I')) := by
      intro v
      unfold j_X11_two_348_171
      simp only [zw_let_e, nI_1]
    have no : ¬ (zr_li H m kr 0 saw c = true ∧ zr_li H m kr saw 12 d = true ∧ zr_xi p Y' < ((p c + p d : Nat) : Int)) → (∃ t, some (Sum.inl (β := Int32 × zI) (zr_xv p Y', nI (d + 1), I')) = some (.inl t) ∧ ∃ I' Y', t = (zr_xv p Y', nI (d + 1), I') ∧ zr_mf I' I ∧ zr_ml H kr I' Y' ∧ zr_In (zr_li H m kr 0 saw) (zr_li H m kr saw 12) p H.nc saw X c (d + 1) Y') := by
      intro h
      unfold zr_st2 at st
      rw [if_neg h] at st
      exact ⟨_, rfl, I', Y', rfl, f1, f2, st⟩
    unfold s_X11_two_171
    simp only [zE_gM, zE_rM b, zE_sM, zw_g_t, hM'.1, zE_in hl (by decide), zE_cl (show zq_lv b < 2 ^ 31 by omega), hM'.2.2.1, if_neg (nI_ge hd (by omega)), zE_in (show c < 6 by omega) (by decide), zE_cl (show c < 2 ^ 31 by omega), zE_in (show d < 6 by omega) (by decide), zE_cl (show d < 2 ^ 31 by omega), g1, g2, keep]
    by_cases c1 : zr_lo (zr_T m c) (zq_fp (H.D c) (H.D (6 + kr)) 0 saw) = -1
    · rw [if_pos c1]
      exact Or.inl (no (fun q => (zr_lo_li _ _).mp c1 q.1))
    · rw [if_neg c1]
      by_cases c2 : zr_lo (zr_T m d) (zq_fp (H.D d) (H.D (6 + kr)) saw 12) = -1
      · rw [if_pos c2]
        exact Or.inl (no (fun q => (zr_lo_li _ _).mp c2 q.2.1))
      · rw [if_neg c2]
        have tc : zr_T m c = true := by
          cases h : zr_T m c
          · rw [h] at c1; exact absurd rfl c1
          · rfl
        have td : zr_T m d = true := by
          cases h : zr_T m d
          · rw [h] at c2; exact absurd rfl c2
          · rfl
        have lc : zr_li H m kr 0 saw c = true := Classical.byContradiction (fun q => c1 ((zr_lo_li _ _).mpr q))
        have ld : zr_li H m kr saw 12 d = true := Classical.byContradiction (fun q => c2 ((zr_lo_li _ _).mpr q))
        have v1 : I' 193 c = nI (p c) := by rw [f1.1 193 (by decide) (by decide)]; exact h193 c hc tc
        have v2 : I' 193 d = nI (p d) := by rw [f1.1 193 (by decide) (by decide)]; exact h193 d hd td
        have pc := hp c
        have pd := hp d
        rw [tc] at g1
        rw [td] at g2
        obtain ⟨I2, w1, w2, w3⟩ := zr_t237 (b := b) (H := H) (m := m) (kr := kr) (saw := saw) (v5 := v5) (show c < 6 by omega) (show d < 6 by omega) v1 v2 g1 g2
        simp only [w1, v1, v2, nI_add]
        have yes : zr_xi p Y' < ((p c + p d : Nat) : Int) → (∃ t, some (Sum.inl (β := Int32 × zI) (nI (p c + p d), nI (d + 1), I2)) = some (.inl t) ∧ ∃ I' Y', t = (zr_xv p Y', nI (d + 1), I') ∧ zr_mf I' I ∧ zr_ml H kr I' Y' ∧ zr_In (zr_li H m kr 0 saw) (zr_li H m kr saw 12) p H.nc saw X c (d + 1) Y') := by
          intro h
          unfold zr_st2 at st
          rw [if_pos ⟨lc, ld, h⟩] at st
          exact ⟨_, rfl, I2, some (saw, c, d), rfl, w2.tr f1, w3, st⟩
        by_cases c3 : zr_xv p Y' = -2
        · rw [if_pos c3]
          refine Or.inl (yes ?_)
          rw [(zr_xv_m2 hp Y').mp c3]
          show (-1 : Int) < _
          omega
        · rw [if_neg c3]
          by_cases c4 : zr_xi p Y' < ((p c + p d : Nat) : Int)
          · rw [if_pos ((zr_xv_lt hp Y' (by omega)).mpr c4)]
            exact Or.inl (yes c4)
          · rw [if_neg (fun q => c4 ((zr_xv_lt hp Y' (by omega)).mp q))]
            exact Or.inl (no (fun q => c4 q.2.2))
  · rintro s ⟨I', Y', rfl, f1, f2, f3⟩
    have hM' : zq_HM b I' H := zq_HM_tr hM (fun a a1 a2 => f1.1 a (by omega) (by omega)) (f1.2 18 (by decide))
    unfold s_X11_two_171
    simp only [zE_gM, zE_rM b, zE_sM, zw_g_t, hM'.1, zE_in hl (by decide), zE_cl (show zq_lv b < 2 ^ 31 by omega), hM'.2.2.1, if_pos (nI_le (Nat.le_refl H.nc) (by omega))]
    exact ⟨_, rfl, I', Y', rfl, f1, f2, zr_In_row f3⟩
theorem zr_t154 {b : Bool} {I : zI} {H : zq_H} (hK : zq_HK H) (hM : zq_HM b I H) {m kr saw : Nat} {p : Nat → Nat} {X : zr_X} {v5 : Int32} (hp : ∀ c, p c ≤ 1000000) (h193 : ∀ c, c < H.nc → zr_T m c = true → I 193 c = nI (p c)) (h19 : ∀ c, c < H.nc → I 194 c = zr_lo (zr_T m c) (zq_fp (H.D c) (H.D (6 + kr)) 0 saw) ∧ I 195 c = zr_lo (zr_T m c) (zq_fp (H.D c) (H.D (6 + kr)) saw 12)) (hX : zr_ml H kr I X) : ∃ I2, zw_it (s_X11_two_154 148 (nI m) v5 (nI saw) (zE_R b)) 1000000 (zr_xv p X, 0, I) = some (zr_xv p (zr_nx H m kr p X saw), I2) ∧ zr_mf I2 I ∧ zr_ml H kr I2 (zr_nx H m kr p X saw) := by
  have hl := zq_lv1 b
  have k2 := hK.2.1
  have go := zE_for (step := s_X11_two_154 148 (nI m) v5 (nI saw) (zE_R b)) (fun c s => ∃ I' Y', s = (zr_xv p Y', nI c, I') ∧ zr_mf I' I ∧ zr_ml H kr I' Y' ∧ zr_In (zr_li H m kr 0 saw) (zr_li H m kr saw 12) p H.nc saw X c 0 Y') (fun r => ∃ I' Y', r = (zr_xv p Y', I') ∧ zr_mf I' I ∧ zr_ml H kr I' Y' ∧ zr_In (zr_li H m kr 0 saw) (zr_li H m kr saw 12) p H.nc saw X H.nc 0 Y') H.nc ?_ ?_ 0 (zr_xv p X, 0, I) (by omega) (by omega) ⟨I, X, rfl, zr_mf.rf I, hX, Or.inl ⟨rfl, fun x y q => by unfold zr_do at q; omega⟩⟩
  · obtain ⟨r, q1, I2, Y2, rfl, q2, q3, q4⟩ := go
    have e := zr_In_end q4
    have e : Y2 = zr_nx H m kr p X saw := e
    rw [← e]
    exact ⟨I2, q1, q2, q3⟩
  · rintro c s hc ⟨I', Y', rfl, f1, f2, f3⟩
    have hM' : zq_HM b I' H := zq_HM_tr hM (fun a a1 a2 => f1.1 a (by omega) (by omega)) (f1.2 18 (by decide))
    obtain ⟨I2, Y2, w1, w2, w3, w4⟩ := zr_t171 (v5 := v5) hK hM' hc hp (fun c x y => by rw [f1.1 193 (by decide) (by decide)]; exact h193 c x y) (fun c x => by rw [f1.1 194 (by decide) (by decide), f1.1 195 (by decide) (by decide)]; exact h19 c x) f2 f3
    unfold s_X11_two_154
    simp only [zE_gM, zE_rM b, zE_sM, zw_g_t, hM'.1, zE_in hl (by decide), zE_cl (show zq_lv b < 2 ^ 31 by omega), hM'.2.2.1, if_neg (nI_ge hc (by omega)), w1, Option.bind_some, zw_let_e, nI_1]
    exact Or.inl ⟨_, rfl, I2, Y2, rfl, w2.tr f1, w3, w4⟩
  · rintro s ⟨I', Y', rfl, f1, f2, f3⟩
    have hM' : zq_HM b I' H := zq_HM_tr hM (fun a a1 a2 => f1.1 a (by omega) (by omega)) (f1.2 18 (by decide))
    unfold s_X11_two_154
    simp only [zE_gM, zE_rM b, zE_sM, zw_g_t, hM'.1, zE_in hl (by decide), zE_cl (show zq_lv b < 2 ^ 31 by omega), hM'.2.2.1, if_pos (nI_le (Nat.le_refl H.nc) (by omega))]
    exact ⟨_, rfl, I', Y', rfl, f1, f2, f3⟩
def zr_mg (I2 I : zI) : Prop := (∀ a, a ≠ 148 → a ≠ 192 → a ≠ 194 → a ≠ 195 → I2 a = I a) ∧ ∀ y, y ≠ 70 → I2 148 y = I 148 y
theorem zr_t37 {b : Bool} {I : zI} {H : zq_H} (hK : zq_HK H) (hM : zq_HM b I H) {m kr : Nat} {p : Nat → Nat} (hm : m < 64) (hkr : kr < H.nr) (hp : ∀ c, p c ≤ 1000000) (h193 : ∀ c, c < H.nc → zr_T m c = true → I 193 c = nI (p c)) (h70 : I 148 70 = 0) : ∃ I2, zw_it (s_X11_two_37 148 (nI m) (nI (10 * zq_lv b + (6 + kr))) (zE_R b)) 1000000 (-2, 1, I) = some (zr_xv p (zr_xs H m kr p ((H.D (6 + kr)).w - 1)), I2) ∧ zr_mg I2 I ∧ zr_ml H kr I2 (zr_xs H m kr p ((H.D (6 + kr)).w - 1)) := by
  have hl := zq_lv1 b
  have k2 := hK.2.1
  have k3 := hK.2.2.1
  have okr := hK.2.2.2.2 (6 + kr) (Or.inr ⟨by omega, by omega⟩)
  have w1 := okr.w1
  have w2 := okr.w2
  have tr : ∀ I', zr_mg I' I → zq_HM b I' H := fun I' f1 => zq_HM_tr hM (fun a a1 a2 => f1.1 a (by omega) (by omega) (by omega) (by omega)) (f1.2 18 (by decide))
  have go := zE_for (step := s_X11_two_37 148 (nI m) (nI (10 * zq_lv b + (6 + kr))) (zE_R b)) (fun i s => ∃ I', s = (zr_xv p (zr_xs H m kr p i), nI (i + 1), I') ∧ zr_mg I' I ∧ zr_ml H kr I' (zr_xs H m kr p i)) (fun r => ∃ I', r = (zr_xv p (zr_xs H m kr p ((H.D (6 + kr)).w - 1)), I') ∧ zr_mg I' I ∧ zr_ml H kr I' (zr_xs H m kr p ((H.D (6 + kr)).w - 1))) ((H.D (6 + kr)).w - 1) ?_ ?_ 0 (-2, 1, I) (by omega) (by omega) ⟨I, rfl, ⟨fun _ _ _ _ _ => rfl, fun _ _ => rfl⟩, Or.inl ⟨rfl, h70⟩⟩
  · obtain ⟨r, q1, I2, rfl, q2⟩ := go
    exact ⟨I2, q1, q2⟩
  · rintro i s hi ⟨I', rfl, f1, f2⟩
    have hM' := tr I' f1
    have dme := hM'.2.2.2.2.2 (6 + kr) (Or.inr ⟨by omega, by omega⟩)
    obtain ⟨I2, a1, a2, a3⟩ := zr_t52 hK hM' (m := m) (kr := kr) (saw := i + 1) (zr_xv p (zr_xs H m kr p i)) hm hkr (by omega)
    have g2 : zr_mg I2 I := ⟨fun a x y z u => (a2 a z u).trans (f1.1 a x y z u), fun y hy => by rw [a2 148 (by decide) (by decide)]; exact f1.2 y hy⟩
    have l2 : zr_ml H kr I2 (zr_xs H m kr p i) := by
      unfold zr_ml
      rw [a2 148 (by decide) (by decide), a2 192 (by decide) (by decide)]
      exact f2
    obtain ⟨I3, b1, b2, b3⟩ := zr_t154 (v5 := nI (10 * zq_lv b + (6 + kr))) hK (tr I2 g2) (saw := i + 1) hp (fun c x y => by rw [g2.1 193 (by decide) (by decide) (by decide) (by decide)]; exact h193 c x y) a3 l2
    unfold s_X11_two_37
    simp only [zE_gM, zE_rM b, zE_sM, zw_g_t, zE_in (show 10 * zq_lv b + (6 + kr) < 20 by omega) (by decide), zE_cl (show 10 * zq_lv b + (6 + kr) < 2 ^ 31 by omega), dme.w, if_neg (nI_ge (show i + 1 < (H.D (6 + kr)).w by omega) (by omega)), a1, Option.bind_some, b1, zw_let_e, nI_1]
    exact Or.inl ⟨_, rfl, I3, rfl, ⟨fun a x y z u => (b2.1 a x y).trans (g2.1 a x y z u), fun y hy => (b2.2 y hy).trans (g2.2 y hy)⟩, b3⟩
  · rintro s ⟨I', rfl, f1, f2⟩
    have dme := (tr I' f1).2.2.2.2.2 (6 + kr) (Or.inr ⟨by omega, by omega⟩)
    unfold s_X11_two_37
    simp only [zE_gM, zE_rM b, zE_sM, zw_g_t, zE_in (show 10 * zq_lv b + (6 + kr) < 20 by omega) (by decide), zE_cl (show 10 * zq_lv b + (6 + kr) < 2 ^ 31 by omega), dme.w, if_pos (nI_le (show (H.D (6 + kr)).w ≤ (H.D (6 + kr)).w - 1 + 1 by omega) (by omega))]
    exact ⟨_, rfl, I', rfl, f1, f2⟩
theorem zr_twoX {R : zR} {I I3 I4 I5 : zI} {v1 v3 x : Int32} {kr hh hr o : Nat} (hkr : kr < 4) (r10 : R 1 10 = 141) (r2 : R 1 2 = hh) (r4 : R hh 4 = hr) (ro : R hr kr = o) (g1 : zw_gc 1 10 = true) (g2 : zw_gc 141 13 = true) (g3 : zw_gc hh 1 = true) (g4 : zw_gc hr 16 = true) (g5 : zw_gc o 0 = true) (s4 : zw_SH hr = (16, 4)) (h1 : f_X10_areCuts 1 v1 I R = some 1) (h2 : f_X10_isRough 1 (nI kr) I R = some 1) (h3 : f_X10_isStuff 1 v3 I R = some 1) (c1 : f_X10_findPrices 1 v1 v3 I R = some I3) (fi : f_J7_fill_53178 141 (-1) I3 = some I4) (t1 : zw_it (s_X10_two_58 1 v1 o R) 1000000 (-2, 1, I4) = some (x, I5)) : f_X10_two 1 v1 (nI kr) v3 I R = some (x, I5) := by
  have i1 : zw_in (nI kr) 4 = true := zE_in hkr (by decide)
  have i2 : Int32.toNatClampNeg (nI kr) = kr := zE_cl (by omega)
  unfold f_X10_two
  rw [g1, zw_g_t, h1, Option.bind_some, if_neg zE_10, h2, Option.bind_some, if_neg zE_10, h3, Option.bind_some, if_pos zE_10, c1, Option.bind_some, r10, g2, zw_g_t, fi, Option.bind_some, r2, g3, zw_g_t, r4, g4, zw_g_t, s4]
  dsimp only
  rw [i1, zw_g_t, i2, ro, g5, zw_g_t, t1, Option.bind_some]
theorem zr_twoY {R : zR} {I I6 I8 : zI} {v1 v2 v3 r x : Int32} (g1 : zw_gc 148 11 = true) (ask1 : f_X11_isAsked 148 v1 v2 v3 I R = some 1) (m1 : f_X11_prices 148 v1 v3 I R = some I6) (rr : f_X11_roughRow 148 v2 (zw_u I6 148 70 0) R = some r) (w1 : zw_it (s_X11_two_37 148 v1 r R) 1000000 (-2, 1, zw_u I6 148 70 0) = some (x, I8)) : f_X11_two 148 v1 v2 v3 I R = some (x, I8) := by
  unfold f_X11_two
  rw [g1, zw_g_t, ask1, Option.bind_some, if_pos zE_10, m1, Option.bind_some, zw_let_e, rr, Option.bind_some, w1, Option.bind_some]
/-- two -/
theorem zr_twoE {b : Bool} {I : zI} {H : zq_H} {Q : zr_Q} (hK : zq_HK H) (hC : zq_HC b I H) (hM : zq_HM b I H) (hT : zq_TL I) (hQ : zr_QK Q) (hQC : zr_QC b I Q) (hQM : zr_QM b I Q) (hL : zE_L I) (v1 v2 v3 : Int32) : ∃ r I1 I2, f_X10_two 1 v1 v2 v3 I (zE_R b) = some (r, I1) ∧ f_X11_two 148 v1 v2 v3 I1 (zE_R b) = some (r, I2) ∧ zE_L I2 ∧ zq_TL I2 ∧ zr_oD I2 I := by
  have hb := zE_hb b
  have k1 := hK.1
  have k2 := hK.2.1
  have k3 := hK.2.2.1
  have h64 : 2 ^ H.nc ≤ 64 := Nat.pow_le_pow_right (n := 2) (by decide) k2
  have no : f_X11_isAsked 148 v1 v2 v3 I (zE_R b) = some 0 → f_X11_two 148 v1 v2 v3 I (zE_R b) = some (-1, I) := by
    intro h
    unfold f_X11_two
    rw [zr_M1g.1, zw_g_t, h, Option.bind_some, if_neg (fun q => q rfl)]
  obtain ⟨a1, a2⟩ := zr_askedM hK hM v1 v2 v3
  have g110 : zw_gc 1 10 = true := by simp only [zE_gC]
  rcases zr_asked hK hC v1 with ⟨h1, h2⟩ | ⟨m, h0, hm, h1, h2⟩ | ⟨m, h0, h1, hm, h2⟩
  · refine ⟨-1, I, I, ?_, no (a1 h1), hL, hT, zr_oD.rf I⟩
    unfold f_X10_two
    rw [g110, zw_g_t, h2, Option.bind_some, if_pos rfl]
  · refine ⟨-1, I, I, ?_, no ((a2 m h0 hm).1 h1), hL, hT, zr_oD.rf I⟩
    unfold f_X10_two
    rw [g110, zw_g_t, h2, Option.bind_some, if_pos rfl]
  obtain ⟨-, a4, a5⟩ := a2 m h0 (by omega)
  rcases zq_isRough hK hC v2 with ⟨h3, h4⟩ | ⟨kr, hkr, hv2, h4⟩
  · refine ⟨-1, I, I, ?_, no (a4 h1 h3), hL, hT, zr_oD.rf I⟩
    unfold f_X10_two
    rw [g110, zw_g_t, h2, Option.bind_some, if_neg zE_10, h4, Option.bind_some, if_pos rfl]
  obtain ⟨a6, a7⟩ := a5 h1 kr hkr hv2
  rcases zq_isStuff hK hC v3 with ⟨h5, h6⟩ | ⟨s, hs, hv3, h6⟩
  · refine ⟨-1, I, I, ?_, no (a6 h5), hL, hT, zr_oD.rf I⟩
    unfold f_X10_two
    rw [g110, zw_g_t, h2, Option.bind_some, if_neg zE_10, h4, Option.bind_some, if_neg zE_10, h6, Option.bind_some, if_neg (fun q => q rfl)]
  subst h0 hv2 hv3
  obtain ⟨I3, c1, c2, c3, c4⟩ := zr_findC hK hC hT hQ hQC hm hs
  obtain ⟨p, ep⟩ : ∃ p, p = zr_p H Q s := ⟨_, rfl⟩
  have hp : ∀ c, p c ≤ 1000000 := fun c => by rw [ep]; exact (zr_Pp H Q s c).2
  have c4 : ∀ c, c < H.nc → zr_T m c = true → I3 140 c = nI (p c) := fun c x y => by rw [ep]; exact c4 c x y
  obtain ⟨I4, e4⟩ : ∃ I4, I4 = zq_fl I3 141 7 (-1) := ⟨_, rfl⟩
  have fi : f_J7_fill_53178 141 (-1) I3 = some I4 := by
    rw [e4]
    exact zq_fill (t := 13) (-1) (by simp only [zE_gC]) (by simp only [zE_sC]) (by decide)
  have f4 : ∀ a, a ≠ 141 → I4 a = I3 a := fun a ha => by rw [e4]; exact zq_fl_o ha
  have l4 : ∀ j, j < 7 → I4 141 j = -1 := fun j hj => by rw [e4]; exact zq_fl_a hj
  have fc : ∀ a, (a < 132 ∨ 141 < a) → I4 a = I a := fun a ha => (f4 a (by omega)).trans (c2 a (by omega))
  have hC4 : zq_HC b I4 H := zq_HC_tr hK hC (fun a x y => fc a (by omega))
  obtain ⟨r1, r2, g1, s1⟩ := zr_refRo b (j := kr) (by omega)
  obtain ⟨I5, t1, t2, t3⟩ := zr_twoC hK hC4 hm hkr hp (fun c x y => by rw [f4 140 (by decide)]; exact c4 c x y) l4
  have fc5 : ∀ a, (a < 132 ∨ 141 < a) → I5 a = I a := fun a ha => (t2 a (by omega)).trans (fc a ha)
  have cls := zr_twoX (R := zE_R b) (show kr < 4 by omega) (by simp only [zE_rC b]) (zE_rh b).1 r1 r2 g110 (by simp only [zE_gC]) (zE_gH b).1 g1 (zE_sHdr b (6 + kr) (by omega)).2 s1 h2 h4 h6 c1 fi t1
  -- the model
  have hM1 : zq_HM b I5 H := zq_HM_tr hM (fun a x y => fc5 a (by omega)) (by rw [fc5 148 (by decide)])
  have hQM1 : zr_QM b I5 Q := zr_QM_tr hQM (fun a x y => fc5 a (by omega))
  have ask1 : f_X11_isAsked 148 (nI m) (nI kr) (nI s) I5 (zE_R b) = some 1 := ((((zr_askedM hK hM1 (nI m) (nI kr) (nI s)).2 m rfl (by omega)).2.2 h1 kr hkr rfl).2 s hs rfl)
  obtain ⟨I6, m1, m2, m3, m4⟩ := zr_pricesM hK hM1 hQ hQM1 hm hs
  obtain ⟨I7, e7⟩ : ∃ I7, I7 = zw_u I6 148 70 0 := ⟨_, rfl⟩
  have f7 : ∀ a, a ≠ 148 → I7 a = I6 a := fun a ha => by rw [e7, zw_u_off _ _ _ ha]
  have f7b : ∀ y, y ≠ 70 → I7 148 y = I6 148 y := fun y hy => by rw [e7, zE_u2 _ _ (by omega)]
  have hM7 : zq_HM b I7 H := zq_HM_tr hM1 (fun a x y => (f7 a (by omega)).trans (m2 a (by omega) (by omega) (by omega))) ((f7b 18 (by decide)).trans (m3 18 (by decide) (by decide)))
  obtain ⟨I8, w1, w2, w3⟩ := zr_t37 hK hM7 (p := p) hm hkr hp (fun c x y => by rw [f7 193 (by decide), ep]; exact m4 c x y) (by rw [e7, zE_u1])
  have g8 : ∀ a, a ≠ 148 → (a < 182 ∨ 186 < a) → (a < 192 ∨ 195 < a) → I8 a = I5 a := fun a x y z => (w2.1 a x (by omega) (by omega) (by omega)).trans ((f7 a x).trans (m2 a x y (by omega)))
  refine ⟨_, I5, I8, cls, ?_, ?_, zq_TL_tr c3 (by rw [g8 132 (by decide) (by decide) (by decide), t2 132 (by decide), f4 132 (by decide)]), ⟨fun a x y z u => (g8 a y z u).trans (fc5 a x), fun y x z u => (w2.2 y u).trans ((f7b y u).trans ((m3 y x z).trans (by rw [fc5 148 (by decide)])))⟩⟩
  · rw [e7] at w1
    exact zr_twoY zr_M1g.1 ask1 m1 (by rw [← e7]; exact (zq_roughRow hK hM7 (nI kr)).2 kr hkr rfl) w1
  · rcases t3 with ⟨x1, x2⟩ | ⟨x, x1, x2⟩
    · rw [x1] at w3
      rcases w3 with ⟨-, w3⟩ | ⟨y, w3, -⟩
      · exact Or.inl ⟨w3, fun j hj => by rw [g8 141 (by decide) (by decide) (by decide)]; exact x2 j hj⟩
      · cases w3
    · rw [x1] at w3
      rcases w3 with ⟨w3, -⟩ | ⟨y, w3, w4, w5⟩
      · cases w3
      · cases w3
        exact Or.inr ⟨w4, fun j hj => by rw [g8 141 (by decide) (by decide) (by decide), x2 j hj, w5 j hj]⟩
