/-! ===== the prices of cuts; the dearest that lies ===== -/
theorem zr_bit : ∀ s, s < 6 → ∀ m, m < 64 → (nI m >>> (nI s &&& 31)) &&& 1 = nI (m / 2 ^ s % 2) := by decide +kernel
def zr_T (m c : Nat) : Bool := decide (m / 2 ^ c % 2 = 1)
theorem zr_bitT {m c : Nat} (hm : m < 64) (hc : c < 6) : (nI m >>> (nI c &&& 31)) &&& 1 = zr_b (zr_T m c) := by
  unfold zr_T
  rw [zr_bit c hc m hm]
  rcases Nat.mod_two_eq_zero_or_one (m / 2 ^ c) with h | h <;> rw [h] <;> rfl
theorem zr_told {m c : Nat} (hm : m < 64) (hc : c < 6) : f_X10_isTold (nI m) (nI c) = some (zr_b (zr_T m c)) := by
  unfold f_X10_isTold
  rw [zr_bitT hm hc]
  generalize zr_T m c = t
  cases t <;> rfl
def zr_P (H : zq_H) (Q : zr_Q) (s c : Nat) : Int32 := zr_pr (zq_var (H.D c) 0 (zq_bS H c s 0)) Q
def zr_p (H : zq_H) (Q : zr_Q) (s c : Nat) : Nat := (zr_P H Q s c).toNatClampNeg
theorem zr_Pp (H : zq_H) (Q : zr_Q) (s c : Nat) : zr_P H Q s c = nI (zr_p H Q s c) ∧ zr_p H Q s c ≤ 1000000 := by
  obtain ⟨p, h1, h2⟩ := zr_pr_p (zq_var (H.D c) 0 (zq_bS H c s 0)) Q
  have e : zr_p H Q s c = p := by
    unfold zr_p zr_P
    rw [h1]
    exact zE_cl (by omega)
  rw [e]
  exact ⟨h1, h2⟩
theorem zr_trialV {I : zI} {d : zq_D} {s : Nat → Int32} {gv : Int32} {co : Nat} (h2 : I 132 2 = nI d.w) (h3 : I 132 3 = nI (zq_hf d d.t)) (h4 : I 132 4 = nI co) (h : ∀ j, j < 9 → I 133 j = zq_vec d s gv j) : ∀ j, j < 8 → zr_Vc I 132 (zr_cv j) = zq_var d co s j := by
  intro j hj
  rcases (show j = 0 ∨ j = 1 ∨ j = 2 ∨ j = 3 ∨ j = 4 ∨ j = 5 ∨ j = 6 ∨ j = 7 by omega) with rfl | rfl | rfl | rfl | rfl | rfl | rfl | rfl
  · exact h 0 (by decide)
  · exact h 1 (by decide)
  · exact h 2 (by decide)
  · exact h3
  · exact h 3 (by decide)
  · exact h 4 (by decide)
  · exact h2
  · exact h4
theorem zq_TL_tr {I2 I : zI} (h : zq_TL I) (h1 : I2 132 = I 132) : zq_TL I2 := by
  unfold zq_TL
  rw [h1]
  exact h
theorem zr_findC {b : Bool} {I : zI} {H : zq_H} {Q : zr_Q} (hK : zq_HK H) (hC : zq_HC b I H) (hT : zq_TL I) (hQ : zr_QK Q) (hQC : zr_QC b I Q) {m s : Nat} (hm : m < 64) (hs : s < H.ns) : ∃ I2, f_X10_findPrices 1 (nI m) (nI s) I (zE_R b) = some I2 ∧ (∀ a, (a < 132 ∨ 140 < a) → I2 a = I a) ∧ zq_TL I2 ∧ ∀ c, c < H.nc → zr_T m c = true → I2 140 c = nI (zr_p H Q s c) := by
  have hb := zE_hb b
  have k1 := hK.1
  have k2 := hK.2.1
  obtain ⟨q1, q2, q3, q4⟩ := zq_refS b (j := s) (by omega)
  have go := zE_for (step := s_X10_findPrices_2 1 (nI m) (nI s) (zE_R b)) (fun i z => ∃ I', z = (nI i, I') ∧ (∀ a, (a < 132 ∨ 140 < a) → I' a = I a) ∧ zq_TL I' ∧ ∀ c, c < i → zr_T m c = true → I' 140 c = nI (zr_p H Q s c)) (fun r => (∀ a, (a < 132 ∨ 140 < a) → r a = I a) ∧ zq_TL r ∧ ∀ c, c < H.nc → zr_T m c = true → r 140 c = nI (zr_p H Q s c)) H.nc ?_ ?_ 0 (0, I) (by omega) (by omega) ⟨I, rfl, fun _ _ => rfl, hT, fun j hj => by omega⟩
  · obtain ⟨r, w1, w2⟩ := go
    unfold f_X10_findPrices
    rw [w1, Option.bind_some]
    exact ⟨r, rfl, w2⟩
  · rintro i z hi ⟨I', rfl, f1, f2, f3⟩
    have hC' : zq_HC b I' H := zq_HC_tr hK hC (fun a a1 a2 => f1 a (by omega))
    obtain ⟨r1, r2, r3, g1, g2, s2⟩ := zq_refC b (j := i) (by omega)
    obtain ⟨I2, t1, t2, t3, t4, t5, t6, t7⟩ := zq_trial hK hC' f2 hi hs (co := 0) (by decide)
    have t1 : f_X6_lightUp 132 (zE_h b + (21 + 2 * i)) (zE_h b + (9 + 3 * s)) 0 I' (zE_R b) = some I2 := t1
    obtain ⟨I3, p1, p2⟩ := zr_priceC (o := 132) hQ (zr_QC_tr (I2 := I2) hQ hQC (fun a a1 a2 => (t2 a (by omega)).trans (f1 a (by omega)))) (zq_sn2 b) (by decide) (zr_trialV t4 t5 t6 t7)
    have p1 : f_X1_priceBy (zE_h b) 132 138 I2 (zE_R b) = some (nI (zr_p H Q s i), I3) := by rw [← (zr_Pp H Q s i).1]; exact p1
    unfold s_X10_findPrices_2 j_X10_findPrices_68_2
    simp only [zE_gC, zE_rC b, zE_sC, zw_g_t, zw_let_e, r1, r2, r3, g1, g2, s2, q1, q2, q3, q4, hC'.2.1, if_neg (nI_ge hi (by omega)), zr_told hm (show i < 6 by omega), Option.bind_some, zE_cl (show i < 2 ^ 31 by omega), zE_cl (show s < 2 ^ 31 by omega), zE_in (show i < 6 by omega) (by decide), zE_in (show s < 4 by omega) (by decide), (zE_sHdr b i (by omega)).2, (zE_sHst b s (by omega)).2, t1, p1, nI_1]
    cases ht : zr_T m i
    · rw [if_pos (show zr_b false = 0 from rfl)]
      refine Or.inl ⟨_, rfl, I', rfl, f1, f2, fun c hc hc2 => ?_⟩
      by_cases e : c = i
      · rw [e, ht] at hc2; cases hc2
      · exact f3 c (by omega) hc2
    · rw [if_neg (show ¬ zr_b true = 0 by decide)]
      refine Or.inl ⟨_, rfl, _, rfl, fun a ha => by rw [zw_u_off _ _ _ (by omega), p2 a (by omega) (by omega), t2 a (by omega), f1 a ha], zq_TL_tr t3 (by rw [zw_u_off _ _ _ (by decide), p2 132 (by decide) (by decide)]), fun c hc hc2 => ?_⟩
      by_cases e : c = i
      · rw [e, zE_u1]
      · rw [zE_u2 _ _ (by omega), p2 140 (by decide) (by decide), t2 140 (by decide)]
        exact f3 c (by omega) hc2
  · rintro z ⟨I', rfl, f1, f2, f3⟩
    have hC' : zq_HC b I' H := zq_HC_tr hK hC (fun a a1 a2 => f1 a (by omega))
    refine ⟨I', ?_, f1, f2, f3⟩
    unfold s_X10_findPrices_2
    simp only [zE_gC, (zE_rh b).1, (zE_gH b).1, zw_g_t, hC'.2.1, if_pos (nI_le (Nat.le_refl H.nc) (by omega))]
theorem zr_pricesM {b : Bool} {I : zI} {H : zq_H} {Q : zr_Q} (hK : zq_HK H) (hM : zq_HM b I H) (hQ : zr_QK Q) (hQM : zr_QM b I Q) {m s : Nat} (hm : m < 64) (hs : s < H.ns) : ∃ I2, f_X11_prices 148 (nI m) (nI s) I (zE_R b) = some I2 ∧ (∀ a, a ≠ 148 → (a < 182 ∨ 186 < a) → a ≠ 193 → I2 a = I a) ∧ (∀ y, y ≠ 51 → (y < 54 ∨ 59 < y) → I2 148 y = I 148 y) ∧ ∀ c, c < H.nc → zr_T m c = true → I2 193 c = nI (zr_p H Q s c) := by
  have hl := zq_lv1 b
  have k1 := hK.1
  have k2 := hK.2.1
  have go := zE_for (step := s_X11_prices_2 148 (nI m) (nI s) (zE_R b)) (fun i z => ∃ I', z = (nI i, I') ∧ (∀ a, a ≠ 148 → (a < 182 ∨ 186 < a) → a ≠ 193 → I' a = I a) ∧ (∀ y, y ≠ 51 → (y < 54 ∨ 59 < y) → I' 148 y = I 148 y) ∧ ∀ c, c < i → zr_T m c = true → I' 193 c = nI (zr_p H Q s c)) (fun r => (∀ a, a ≠ 148 → (a < 182 ∨ 186 < a) → a ≠ 193 → r a = I a) ∧ (∀ y, y ≠ 51 → (y < 54 ∨ 59 < y) → r 148 y = I 148 y) ∧ ∀ c, c < H.nc → zr_T m c = true → r 193 c = nI (zr_p H Q s c)) H.nc ?_ ?_ 0 (0, I) (by omega) (by omega) ⟨I, rfl, fun _ _ _ _ => rfl, fun _ _ _ => rfl, fun j hj => by omega⟩
  · obtain ⟨r, w1, w2⟩ := go
    unfold f_X11_prices
    rw [w1, Option.bind_some]
    exact ⟨r, rfl, w2⟩
  · rintro i z hi ⟨I', rfl, f1, f2, f3⟩
    have hM' : zq_HM b I' H := zq_HM_tr hM (fun a a1 a2 => f1 a (by omega) (by omega) (by omega)) (f2 18 (by decide) (by decide))
    have hQM' : zr_QM b I' Q := zr_QM_tr hQM (fun a a1 a2 => f1 a (by omega) (by omega) (by omega))
    have e1 : 10 * nI (zq_lv b) + nI i = nI (10 * zq_lv b + i) := by rw [show (10 : Int32) = nI 10 from rfl, pk_mul, nI_add]
    have st := hM'.2.2.2.2.1 s hs
    have hB : zq_SB 10000000 (zq_bS H i s 0) := fun j hj => by
      obtain ⟨σ, h1, h2⟩ := zq_bS_b hK (s := s) (co := 0) hi j hj
      exact ⟨σ, h1, by omega⟩
    obtain ⟨I2, m1, m2, m3, -, -, -, -, -, -, -, m4⟩ := zq_shinesM (sw := b) (I := I') (k := 10 * zq_lv b + i) (q := 4 * zq_lv b + s) (c := 0) (by omega) (by omega) (by decide) (hK.2.2.2.2 i (Or.inl hi)) (hM'.2.2.2.2.2 i (Or.inl hi)) (st.1 0 (by decide)).1 (st.1 0 (by decide)).2 st.2 (ab := nI 1000) (le := nI 0) (ri := nI 0) (a := 1) (b := 0) hB
    have m1b : f_X11_shines 148 (nI (10 * zq_lv b + i)) (nI (4 * zq_lv b + s)) 0 1000 0 0 1 0 I' (zE_R b) = some I2 := m1
    obtain ⟨I3, p1, p2⟩ := zr_priceM hQ (zr_QM_tr hQM' (I2 := I2) (fun a a1 a2 => m2 a (by omega) (by omega) (by omega))) (by rw [m3 18 (by decide)]; exact hM'.1)
    rw [zr_V8p (W := zq_var (H.D i) 0 (zq_bS H i s 0)) m4 hQ] at p1
    have p1 : f_X11_priceNow 148 I2 (zE_R b) = some (nI (zr_p H Q s i), I3) := by rw [← (zr_Pp H Q s i).1]; exact p1
    unfold s_X11_prices_2 j_X11_prices_62_2
    simp only [zE_gM, zE_rM b, zE_sM, zw_g_t, zw_let_e, hM'.1, zE_in hl (by decide), zE_cl (show zq_lv b < 2 ^ 31 by omega), hM'.2.2.1, if_neg (nI_ge hi (by omega)), zr_bitT hm (show i < 6 by omega), (zq_stuffRow hK hM' (nI s)).2 s hs rfl, Option.bind_some, e1, m1b, p1, zE_cl (show i < 2 ^ 31 by omega), zE_in (show i < 6 by omega) (by decide), nI_1]
    cases ht : zr_T m i
    · rw [if_neg (fun q => q rfl)]
      refine Or.inl ⟨_, rfl, I', rfl, f1, f2, fun c hc hc2 => ?_⟩
      by_cases e : c = i
      · rw [e, ht] at hc2; cases hc2
      · exact f3 c (by omega) hc2
    · rw [if_pos (show ¬ zr_b true = 0 by decide)]
      refine Or.inl ⟨_, rfl, _, rfl, fun a a1 a2 a3 => by rw [zw_u_off _ _ _ a3, p2.1 a a1 (by omega), m2 a a1 (by omega) (by omega), f1 a a1 a2 a3], fun y y1 y2 => by rw [zE_u2 _ _ (by omega), p2.2 y y1, m3 y y2, f2 y y1 y2], fun c hc hc2 => ?_⟩
      by_cases e : c = i
      · rw [e, zE_u1]
      · rw [zE_u2 _ _ (by omega), p2.1 193 (by decide) (by decide), m2 193 (by decide) (by decide) (by decide)]
        exact f3 c (by omega) hc2
  · rintro z ⟨I', rfl, f1, f2, f3⟩
    have hM' : zq_HM b I' H := zq_HM_tr hM (fun a a1 a2 => f1 a (by omega) (by omega) (by omega)) (f2 18 (by decide) (by decide))
    refine ⟨I', ?_, f1, f2, f3⟩
    unfold s_X11_prices_2
    simp only [zE_gM, zE_rM b, zE_sM, zw_g_t, hM'.1, zE_in hl (by decide), zE_cl (show zq_lv b < 2 ^ 31 by omega), hM'.2.2.1, if_pos (nI_le (Nat.le_refl H.nc) (by omega))]
/-- the first of the dearest of the first n -/
def zr_bd (T : Nat → Bool) (p : Nat → Nat) : Nat → Option Nat
  | 0 => none
  | n + 1 => match zr_bd T p n with
    | none => if T n = true then some n else none
    | some g => if T n = true ∧ p g < p n then some n else some g
theorem zr_bd_none {T : Nat → Bool} {p : Nat → Nat} : ∀ {n : Nat}, zr_bd T p n = none → ∀ c, c < n → T c = false
  | 0, _, c, hc => by omega
  | n + 1, h, c, hc => by
    unfold zr_bd at h
    cases hb : zr_bd T p n with
    | none =>
      rw [hb] at h
      dsimp only at h
      by_cases ht : T n = true
      · rw [if_pos ht] at h; cases h
      · by_cases e : c = n
        · rw [e]; cases hT : T n
          · rfl
          · exact absurd hT ht
        · exact zr_bd_none hb c (by omega)
    | some g =>
      rw [hb] at h
      dsimp only at h
      split at h <;> cases h
theorem zr_bd_some {T : Nat → Bool} {p : Nat → Nat} : ∀ {n g : Nat}, zr_bd T p n = some g → g < n ∧ T g = true ∧ ∀ c, c < n → T c = true → p c ≤ p g ∧ (c < g → p c < p g)
  | 0, _, h => by cases h
  | n + 1, g, h => by
    unfold zr_bd at h
    cases hb : zr_bd T p n with
    | none =>
      have h0 := zr_bd_none hb
      rw [hb] at h
      dsimp only at h
      by_cases ht : T n = true
      · rw [if_pos ht] at h
        cases h
        refine ⟨by omega, ht, fun c hc h1 => ?_⟩
        by_cases e : c = n
        · subst e; exact ⟨Nat.le_refl _, fun q => by omega⟩
        · rw [h0 c (by omega)] at h1; cases h1
      · rw [if_neg ht] at h; cases h
    | some k =>
      obtain ⟨i1, i2, i3⟩ := zr_bd_some hb
      rw [hb] at h
      dsimp only at h
      by_cases ht : T n = true ∧ p k < p n
      · rw [if_pos ht] at h
        cases h
        refine ⟨by omega, ht.1, fun c hc h1 => ?_⟩
        by_cases e : c = n
        · subst e; exact ⟨Nat.le_refl _, fun q => by omega⟩
        · have := (i3 c (by omega) h1).1
          have := ht.2
          exact ⟨by omega, fun _ => by omega⟩
      · rw [if_neg ht] at h
        cases h
        refine ⟨by omega, i2, fun c hc h1 => ?_⟩
        by_cases e : c = n
        · subst e
          have : ¬ p g < p c := fun q => ht ⟨h1, q⟩
          exact ⟨by omega, fun q => by omega⟩
        · exact i3 c (by omega) h1
def zr_o1 : Option Nat → Int32
  | none => -1
  | some g => nI g
/-- a cut that is told and lies in the columns a .. c - 1 -/
noncomputable def zr_li (H : zq_H) (m kr a c : Nat) (k : Nat) : Bool := zr_T m k && decide (zq_fp (H.D k) (H.D (6 + kr)) a c ≠ -1)
theorem zr_dwC {b : Bool} {I : zI} {H : zq_H} (hK : zq_HK H) (hC : zq_HC b I H) {m kr a e : Nat} {p : Nat → Nat} (hm : m < 64) (hkr : kr < H.nr) (hp : ∀ c, p c ≤ 1000000) (h140 : ∀ c, c < H.nc → zr_T m c = true → I 140 c = nI (p c)) (ha : a ≤ 12) (he : e ≤ 12) : f_X10_dearestWithin 1 (nI m) (zE_h b + (21 + 2 * (6 + kr))) (nI a) (nI e) I (zE_R b) = some (zr_o1 (zr_bd (zr_li H m kr a e) p H.nc)) := by
  have hb := zE_hb b
  have k2 := hK.2.1
  have k3 := hK.2.2.1
  have go := zE_forE (step := s_X10_dearestWithin_6 1 (nI m) (zE_h b + (21 + 2 * (6 + kr))) (nI a) (nI e) I (zE_R b)) (fun i => (zr_o1 (zr_bd (zr_li H m kr a e) p i), nI i)) (zr_o1 (zr_bd (zr_li H m kr a e) p H.nc)) H.nc ?_ ?_ (by omega)
  · unfold f_X10_dearestWithin
    have go : zw_it (s_X10_dearestWithin_6 1 (nI m) (zE_h b + (21 + 2 * (6 + kr))) (nI a) (nI e) I (zE_R b)) 1000000 (-1, 0) = _ := go
    rw [go, Option.bind_some]
  · intro i hi
    obtain ⟨r1, r2, r3, g1, g2, s2⟩ := zq_refC b (j := i) (by omega)
    obtain ⟨dc, dx⟩ := hC.2.2.2.2 i (Or.inl hi)
    obtain ⟨dce, -⟩ := hC.2.2.2.2 (6 + kr) (Or.inr ⟨by omega, by omega⟩)
    have fp := zq_firstC (b := b) (I := I) (zq_drk b b i (by omega)) (zq_drk b b (6 + kr) (by omega)) (hK.2.2.2.2 i (Or.inl hi)) (hK.2.2.2.2 (6 + kr) (Or.inr ⟨by omega, by omega⟩)) dc dx dce ha he
    have h55 : ∀ v : Int32, j_X10_dearestWithin_55_6 1 (nI m) (zE_h b + (21 + 2 * (6 + kr))) (nI a) (nI e) v (nI i) 1 I (zE_R b) = some (.inl (if zq_fp (H.D i) (H.D (6 + kr)) a e = -1 then v else nI i, nI (i + 1))) := by
      intro v
      unfold j_X10_dearestWithin_55_6 j_X10_dearestWithin_87_6
      simp only [if_neg zE_10, zE_gC, zE_rC b, zE_sC, zw_g_t, zw_let_e, r1, r2, r3, g1, g2, s2, zE_in (show i < 6 by omega) (by decide), zE_cl (show i < 2 ^ 31 by omega), (zE_sHdr b i (by omega)).2, fp, Option.bind_some, nI_1]
      split <;> rfl
    have h54 : ∀ v : Int32, j_X10_dearestWithin_54_6 1 (nI m) (zE_h b + (21 + 2 * (6 + kr))) (nI a) (nI e) v (nI i) I (zE_R b) = some (.inl (v, nI (i + 1))) := by
      intro v
      unfold j_X10_dearestWithin_54_6 j_X10_dearestWithin_55_6 j_X10_dearestWithin_87_6
      simp only [zw_let_e, nI_1, if_pos trivial]
    unfold s_X10_dearestWithin_6
    simp only [zE_gC, zE_rC b, zE_sC, zw_g_t, r1, g1, hC.2.1, if_neg (nI_ge hi (by omega)), zr_told hm (show i < 6 by omega), Option.bind_some, h54, zE_in (show i < 6 by omega) (by decide), zE_cl (show i < 2 ^ 31 by omega)]
    unfold j_X10_dearestWithin_50_6
    simp only [h55]
    have eb : zr_bd (zr_li H m kr a e) p (i + 1) = match zr_bd (zr_li H m kr a e) p i with
      | none => if zr_li H m kr a e i = true then some i else none
      | some g => if zr_li H m kr a e i = true ∧ p g < p i then some i else some g := rfl
    rw [eb]
    cases ht : zr_T m i
    · have hl : zr_li H m kr a e i = false := by unfold zr_li; rw [ht]; rfl
      rw [if_pos (show zr_b false = 0 from rfl), hl]
      cases zr_bd (zr_li H m kr a e) p i with
      | none => dsimp only; rw [if_neg (by decide)]
      | some g => dsimp only; rw [if_neg (fun r => absurd r.1 (by decide))]
    · have hl : zr_li H m kr a e i = true ↔ ¬ zq_fp (H.D i) (H.D (6 + kr)) a e = -1 := by
        unfold zr_li
        rw [ht, Bool.true_and, decide_eq_true_iff]
      rw [if_neg (show ¬ zr_b true = 0 by decide)]
      cases hg : zr_bd (zr_li H m kr a e) p i with
      | none =>
        dsimp only
        rw [if_pos (show zr_o1 none = -1 from rfl)]
        by_cases hf : zq_fp (H.D i) (H.D (6 + kr)) a e = -1
        · rw [if_pos hf, if_neg (fun q => hl.mp q hf)]
        · rw [if_neg hf, if_pos (hl.mpr hf)]; rfl
      | some g =>
        obtain ⟨i1, i2, -⟩ := zr_bd_some hg
        have tg : zr_T m g = true := by
          unfold zr_li at i2
          rw [Bool.and_eq_true] at i2
          exact i2.1
        have v1 := h140 i hi ht
        have v2 := h140 g (by omega) tg
        have p1 := hp i
        have p2 := hp g
        dsimp only
        show (if nI g = -1 then _ else _) = _
        rw [if_neg (zq_nm1 (by omega))]
        simp only [zr_o1, zE_in (show g < 6 by omega) (by decide), zE_cl (show g < 2 ^ 31 by omega), zw_g_t, v1, v2]
        by_cases hlt : p g < p i
        · rw [if_neg (nI_ge hlt (by omega))]
          by_cases hf : zq_fp (H.D i) (H.D (6 + kr)) a e = -1
          · rw [if_pos hf, if_neg (fun q => hl.mp q.1 hf)]
          · rw [if_neg hf, if_pos ⟨hl.mpr hf, hlt⟩]
        · rw [if_pos (nI_le (show p i ≤ p g by omega) (by omega)), if_neg (fun q => hlt q.2)]
  · unfold s_X10_dearestWithin_6
    simp only [zE_gC, (zE_rh b).1, (zE_gH b).1, zw_g_t, hC.2.1, if_pos (nI_le (Nat.le_refl H.nc) (by omega))]
/-- which sets of cuts may be asked for -/
theorem zr_sh6 : ∀ n, n < 7 → ((nI n &&& 31 : Int32).toBitVec.smod 32).toNat = n ∧ (1 : Int32) <<< (nI n &&& 31) = nI (2 ^ n) := by decide +kernel
theorem zr_asked {b : Bool} {I : zI} {H : zq_H} (hK : zq_HK H) (hC : zq_HC b I H) (v : Int32) : (v < 0 ∧ f_X10_areCuts 1 v I (zE_R b) = some 0) ∨ (∃ m, v = nI m ∧ m < 2 ^ 31 ∧ 2 ^ H.nc ≤ m ∧ f_X10_areCuts 1 v I (zE_R b) = some 0) ∨ ∃ m, v = nI m ∧ m < 2 ^ H.nc ∧ m < 64 ∧ f_X10_areCuts 1 v I (zE_R b) = some 1 := by
  have k2 := hK.2.1
  have h64 : 2 ^ H.nc ≤ 64 := Nat.pow_le_pow_right (n := 2) (by decide) k2
  have h0 : 0 < 2 ^ H.nc := Nat.two_pow_pos _
  unfold f_X10_areCuts
  simp only [zE_gC, (zE_rh b).1, (zE_gH b).1, zw_g_t, hC.2.1]
  by_cases hv : v < 0
  · rw [if_pos hv]; exact Or.inl ⟨hv, rfl⟩
  · rw [if_neg hv]
    obtain ⟨m, hm, rfl⟩ := nI_of hv
    rw [pk_shrN hm _ H.nc (zr_sh6 H.nc (by omega)).1]
    by_cases hc : m < 2 ^ H.nc
    · rw [if_neg (fun q => q (by rw [Nat.div_eq_of_lt hc]; rfl))]
      exact Or.inr (Or.inr ⟨m, rfl, hc, by omega, rfl⟩)
    · have h1 : 0 < m / 2 ^ H.nc := Nat.div_pos (by omega) h0
      have h2 : m / 2 ^ H.nc ≤ m := Nat.div_le_self _ _
      rw [if_pos (nI_ne0 h1 (by omega))]
      exact Or.inr (Or.inl ⟨m, rfl, hm, by omega, rfl⟩)
theorem zr_askedM {b : Bool} {I : zI} {H : zq_H} (hK : zq_HK H) (hM : zq_HM b I H) (v w u : Int32) : (v < 0 → f_X11_isAsked 148 v w u I (zE_R b) = some 0) ∧ ∀ m, v = nI m → m < 2 ^ 31 → (2 ^ H.nc ≤ m → f_X11_isAsked 148 v w u I (zE_R b) = some 0) ∧ (m < 2 ^ H.nc → (w < 0 ∨ nI H.nr ≤ w) → f_X11_isAsked 148 v w u I (zE_R b) = some 0) ∧ (m < 2 ^ H.nc → ∀ r, r < H.nr → w = nI r → ((u < 0 ∨ nI H.ns ≤ u) → f_X11_isAsked 148 v w u I (zE_R b) = some 0) ∧ ∀ s, s < H.ns → u = nI s → f_X11_isAsked 148 v w u I (zE_R b) = some 1) := by
  have k1 := hK.1
  have k2 := hK.2.1
  have k3 := hK.2.2.1
  have hl := zq_lv1 b
  have h64 : 2 ^ H.nc ≤ 64 := Nat.pow_le_pow_right (n := 2) (by decide) k2
  unfold f_X11_isAsked
  simp only [zE_gM, zE_rM b, zE_sM, zw_g_t, hM.1, zE_in hl (by decide), zE_cl (show zq_lv b < 2 ^ 31 by omega), hM.2.2.1, (zr_sh6 H.nc (by omega)).2]
  refine ⟨fun h => if_pos h, ?_⟩
  rintro m rfl hm
  rw [if_neg (nI_pos hm)]
  refine ⟨fun h => if_pos (nI_le h hm), fun h h2 => ?_, fun h r hr hw => ?_⟩
  · rw [if_neg (nI_ge h (by omega)), (zq_roughRow hK hM w).1 h2, Option.bind_some, if_pos rfl]
  · rw [if_neg (nI_ge h (by omega)), (zq_roughRow hK hM w).2 r hr hw, Option.bind_some, if_neg (zq_nm1 (by omega))]
    refine ⟨fun h3 => ?_, fun s hs hu => ?_⟩
    · rw [(zq_stuffRow hK hM u).1 h3, Option.bind_some, if_pos rfl]
    · rw [(zq_stuffRow hK hM u).2 s hs hu, Option.bind_some, if_neg (zq_nm1 (by omega))]
