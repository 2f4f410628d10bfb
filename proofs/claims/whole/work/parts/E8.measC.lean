/-! ===== measuring a drawing, in the class ===== -/
theorem zx_DC_fr {I I2 : zI} {o : Nat} {d : zq_D} (h : zq_DC I o d) (f : ∀ a, a ≠ o → I2 a = I a) (h1 : I2 o 1 = I o 1) (h2 : I2 o 2 = I o 2) : zq_DC I2 o d := ⟨h1.trans h.1, h2.trans h.2.1, fun x y hx hy => by rw [f (o + 1) (by omega)]; exact h.2.2 x y hx hy⟩
theorem zx_msL {sw : Bool} {o : Nat} {d : zq_D} {y : Nat} (hr : zq_dr sw o) (hw : d.w ≤ 12) (ht : d.t ≤ 12) (h6 : ∀ x y, d.c x y ≤ 6) (hy : y < d.t) : ∀ (k x N : Nat) (I : zI), x + k = d.w → k + 1 ≤ N → zq_DC I o d → zx_ms o d x y I → ∃ I2, zw_it (s_X0_measureUp_38 o (nI y) (zE_R sw)) N (nI x, I) = some I2 ∧ (∀ a, a ≠ o → I2 a = I a) ∧ I2 o 1 = I o 1 ∧ I2 o 2 = I o 2 ∧ zx_ms o d d.w y I2
  | k, x, 0, I, _, hN, _, _ => absurd hN (by omega)
  | 0, x, N + 1, I, hx, hN, h, hm => by
    have hx : x = d.w := hx
    subst hx
    refine ⟨I, zE_it0 N ?_, fun _ _ => rfl, rfl, rfl, hm⟩
    unfold s_X0_measureUp_38
    rw [hr.1, zw_g_t]
    dsimp only
    rw [if_pos (show I o 1 ≤ nI d.w by rw [h.1]; exact nI_le (by omega) (by omega))]
  | k + 1, x, N + 1, I, hx, hN, h, hm => by
    obtain ⟨I1, s1, s2, s3, s4, s5⟩ := zx_msS hr hw ht h6 h (by omega) hy hm
    obtain ⟨I2, r1, r2, r3, r4, r5⟩ := zx_msL (sw := sw) hr hw ht h6 hy k (x + 1) N I1 (by omega) (by omega) (zx_DC_fr h s2 s3 s4) s5
    exact ⟨I2, (zE_it1 N s1).trans r1, fun a ha => (r2 a ha).trans (s2 a ha), r3.trans s3, r4.trans s4, r5⟩
theorem zx_ms_up {o : Nat} {d : zq_D} {y : Nat} {I : zI} (h : zx_ms o d d.w y I) : zx_ms o d 0 (y + 1) I := by
  have same : ∀ a b, zx_sn d d.w y a b ↔ zx_sn d 0 (y + 1) a b := by
    intro a b
    unfold zx_sn
    constructor
    · rintro ⟨q1, q2, q3⟩; exact ⟨q1, by omega, q3⟩
    · rintro ⟨q1, q2, q3⟩; exact ⟨q1, by omega, q3⟩
  obtain ⟨m1, m2, f, l, r, m3, m4, m5, m6, m7, m8, m9, m10, m11, m12⟩ := h
  refine ⟨m1, fun a ha => ?_, f, l, r, m3, m4, m5, m6, m7, m8, fun a b q => m9 a b ((same a b).mpr q), ?_, ?_, ?_⟩
  · rw [m2 a ha]
    exact ⟨fun ⟨b, q⟩ => ⟨b, (same a b).mp q⟩, fun ⟨b, q⟩ => ⟨b, (same a b).mpr q⟩⟩
  · rcases m10 with q | ⟨b, q⟩
    · exact Or.inl q
    · exact Or.inr ⟨b, (same _ _).mp q⟩
  · rcases m11 with q | ⟨b, q⟩
    · exact Or.inl q
    · exact Or.inr ⟨b, (same _ _).mp q⟩
  · rcases m12 with q | ⟨b, q⟩
    · exact Or.inl q
    · exact Or.inr ⟨b, (same _ _).mp q⟩
theorem zx_msM {sw : Bool} {o : Nat} {d : zq_D} (hr : zq_dr sw o) (hw : d.w ≤ 12) (ht : d.t ≤ 12) (h6 : ∀ x y, d.c x y ≤ 6) : ∀ (k y N : Nat) (I : zI), y + k = d.t → k + 1 ≤ N → zq_DC I o d → zx_ms o d 0 y I → ∃ I2, zw_it (s_X0_measureUp_28 o (zE_R sw)) N (nI y, I) = some I2 ∧ (∀ a, a ≠ o → I2 a = I a) ∧ I2 o 1 = I o 1 ∧ I2 o 2 = I o 2 ∧ zx_ms o d 0 d.t I2
  | k, y, 0, I, _, hN, _, _ => absurd hN (by omega)
  | 0, y, N + 1, I, hy, hN, h, hm => by
    have hy : y = d.t := hy
    subst hy
    refine ⟨I, zE_it0 N ?_, fun _ _ => rfl, rfl, rfl, hm⟩
    unfold s_X0_measureUp_28
    rw [hr.1, zw_g_t]
    dsimp only
    rw [if_pos (show I o 2 ≤ nI d.t by rw [h.2.1]; exact nI_le (by omega) (by omega))]
  | k + 1, y, N + 1, I, hy, hN, h, hm => by
    obtain ⟨I1, s1, s2, s3, s4, s5⟩ := zx_msL (sw := sw) hr hw ht h6 (show y < d.t by omega) d.w 0 1000000 I (by omega) (by omega) h hm
    have s1 : zw_it (s_X0_measureUp_38 o (nI y) (zE_R sw)) 1000000 (0, I) = some I1 := s1
    have st : s_X0_measureUp_28 o (zE_R sw) (nI y, I) = some (.inl (nI (y + 1), I1)) := by
      unfold s_X0_measureUp_28
      rw [hr.1, zw_g_t]
      dsimp only
      rw [if_neg (show ¬ I o 2 ≤ nI y by rw [h.2.1]; exact nI_ge (by omega) (by omega)), s1, Option.bind_some, zw_let_e, nI_1]
    obtain ⟨I2, r1, r2, r3, r4, r5⟩ := zx_msM (sw := sw) hr hw ht h6 k (y + 1) N I1 (by omega) (by omega) (zx_DC_fr h s2 s3 s4) (zx_ms_up s5)
    exact ⟨I2, (zE_it1 N st).trans r1, fun a ha => (r2 a ha).trans (s2 a ha), r3.trans s3, r4.trans s4, r5⟩
theorem zx_measure {sw : Bool} {o : Nat} {d : zq_D} {I : zI} (hr : zq_dr sw o) (hw : d.w ≤ 12) (ht : d.t ≤ 12) (h6 : ∀ x y, d.c x y ≤ 6) (h : zq_DC I o d) : ∃ I2, f_X0_measureUp o I (zE_R sw) = some I2 ∧ (∀ a, a ≠ o → I2 a = I a) ∧ zq_DC I2 o d ∧ zx_ms o d 0 d.t I2 := by
  obtain ⟨K, eK⟩ : ∃ K, K = zw_u (zw_u (zw_u (zw_u (zw_u I o 3 0) o 4 0) o 5 12) o 6 0) o 7 0 := ⟨_, rfl⟩
  have f : ∀ a, a ≠ o → K a = I a := fun a ha => by rw [eK, zw_u_off _ _ _ ha, zw_u_off _ _ _ ha, zw_u_off _ _ _ ha, zw_u_off _ _ _ ha, zw_u_off _ _ _ ha]
  have k1 : K o 1 = I o 1 := by rw [eK, zE_u2 _ _ (by omega), zE_u2 _ _ (by omega), zE_u2 _ _ (by omega), zE_u2 _ _ (by omega), zE_u2 _ _ (by omega)]
  have k2 : K o 2 = I o 2 := by rw [eK, zE_u2 _ _ (by omega), zE_u2 _ _ (by omega), zE_u2 _ _ (by omega), zE_u2 _ _ (by omega), zE_u2 _ _ (by omega)]
  have no : ∀ a b, ¬ zx_sn d 0 0 a b := by
    rintro a b ⟨q1, q2, q3⟩
    omega
  have z0 : ∀ a, zb_t 0 a = false := fun a => BitVec.getLsbD_zero
  have M0 : zx_ms o d 0 0 K := by
    refine ⟨?_, fun a ha => ?_, 12, 0, 0, ?_, ?_, ?_, by decide, by decide, by decide, fun a b q => absurd q (no a b), Or.inl rfl, Or.inl rfl, Or.inl rfl⟩
    · rw [eK, zE_u2 _ _ (by omega), zE_u2 _ _ (by omega), zE_u2 _ _ (by omega), zE_u2 _ _ (by omega), zE_u1]; rfl
    · have e4 : K o 4 = 0 := by rw [eK, zE_u2 _ _ (by omega), zE_u2 _ _ (by omega), zE_u2 _ _ (by omega), zE_u1]
      rw [e4, z0 a]
      exact ⟨fun q => Bool.noConfusion q, fun ⟨b, q⟩ => absurd q (no a b)⟩
    · rw [eK, zE_u2 _ _ (by omega), zE_u2 _ _ (by omega), zE_u1]; rfl
    · rw [eK, zE_u2 _ _ (by omega), zE_u1]; rfl
    · rw [eK, zE_u1]; rfl
  obtain ⟨I2, r1, r2, r3, r4, r5⟩ := zx_msM (sw := sw) hr hw ht h6 d.t 0 1000000 K (by omega) (by omega) (zx_DC_fr h f k1 k2) M0
  have r1 : zw_it (s_X0_measureUp_28 o (zE_R sw)) 1000000 (0, K) = some I2 := r1
  refine ⟨I2, ?_, fun a ha => (r2 a ha).trans (f a ha), zx_DC_fr h (fun a ha => (r2 a ha).trans (f a ha)) (r3.trans k1) (r4.trans k2), r5⟩
  unfold f_X0_measureUp
  rw [hr.1, zw_g_t, zw_let_e, zw_let_e, zw_let_e, zw_let_e, zw_let_e, ← eK, r1, Option.bind_some]
theorem zx_hr0 {d : zq_D} {y : Nat} : ∀ x, (∀ a, a < x → d.c a y = 0) → zq_hr d y x = 0
  | 0, _ => rfl
  | x + 1, h => by
    show zq_hr d y x + zq_wt (d.c x y) = 0
    rw [zx_hr0 x (fun a ha => h a (by omega)), zx_wt0.mpr (h x (by omega))]
theorem zx_hf0 {d : zq_D} : ∀ y, (∀ a b, a < d.w → b < y → d.c a b = 0) → zq_hf d y = 0
  | 0, _ => rfl
  | y + 1, h => by
    show zq_hf d y + zq_hr d y d.w = 0
    rw [zx_hf0 y (fun a b h1 h2 => h a b h1 (by omega)), zx_hr0 d.w (fun a ha => h a y ha (by omega))]
theorem zx_wt2 (c : Nat) : zq_wt c ≤ 2 := by
  unfold zq_wt
  split
  · omega
  · split <;> omega
theorem zx_hrb {d : zq_D} {y : Nat} : ∀ x, zq_hr d y x ≤ 2 * x
  | 0 => Nat.le_refl _
  | x + 1 => by
    have h1 := zx_hrb (d := d) (y := y) x
    have h2 := zx_wt2 (d.c x y)
    show zq_hr d y x + zq_wt (d.c x y) ≤ 2 * (x + 1)
    omega
theorem zx_hfb {d : zq_D} (hw : d.w ≤ 12) : ∀ y, zq_hf d y ≤ 24 * y
  | 0 => Nat.le_refl _
  | y + 1 => by
    have h1 := zx_hfb hw y
    have h2 := zx_hrb (d := d) (y := y) d.w
    show zq_hf d y + zq_hr d y d.w ≤ 24 * (y + 1)
    omega
theorem zx_some {d : zq_D} (h : zq_hf d d.t ≠ 0) : ∃ a b, a < d.w ∧ b < d.t ∧ d.c a b ≠ 0 := by
  apply Classical.byContradiction
  intro q
  apply h
  refine zx_hf0 d.t (fun a b h1 h2 => ?_)
  apply Classical.byContradiction
  intro r
  exact q ⟨a, b, h1, h2, r⟩
theorem zx_msX {o : Nat} {d : zq_D} {I : zI} (hw : d.w ≤ 12) (h : zx_ms o d 0 d.t I) (h0 : zq_hf d d.t ≠ 0) : zq_DX I o d := by
  obtain ⟨m1, m2, f, l, r, m3, m4, m5, m6, m7, m8, m9, m10, m11, m12⟩ := h
  obtain ⟨a, b, h1, h2, h3⟩ := zx_some h0
  have mk : ∀ a b, a < d.w → b < d.t → d.c a b ≠ 0 → zx_sn d 0 d.t a b := fun a b q1 q2 q3 => ⟨q1, Or.inl q2, q3⟩
  have un : ∀ a b, zx_sn d 0 d.t a b → a < d.w ∧ b < d.t ∧ d.c a b ≠ 0 := fun a b q => ⟨q.1, by have := q.2.1; omega, q.2.2⟩
  have ab := m9 a b (mk a b h1 h2 h3)
  refine ⟨m1, fun x hx => ?_, f, l, r, m3, m4, m5, ?_, ?_, fun x y q1 q2 q3 => m9 x y (mk x y q1 q2 q3), ?_, ?_, ?_⟩
  · rw [zb_bit _ hx, m2 x hx]
    exact ⟨fun ⟨y, q⟩ => ⟨y, (un x y q).1, (un x y q).2.1, (un x y q).2.2⟩, fun ⟨y, q1, q2, q3⟩ => ⟨y, mk x y q1 q2 q3⟩⟩
  · rcases m11 with q | ⟨y, q⟩
    · omega
    · exact q.1
  · rcases m12 with q | ⟨x, q⟩
    · omega
    · exact (un _ _ q).2.1
  · rcases m10 with q | ⟨y, q⟩
    · omega
    · exact ⟨y, (un _ _ q).2.1, (un _ _ q).2.2⟩
  · rcases m11 with q | ⟨y, q⟩
    · exact ⟨b, h2, by rw [show l = a by omega]; exact h3⟩
    · exact ⟨y, (un _ _ q).2.1, (un _ _ q).2.2⟩
  · rcases m12 with q | ⟨x, q⟩
    · exact ⟨a, h1, by rw [show r = b by omega]; exact h3⟩
    · exact ⟨x, q.1, (un _ _ q).2.2⟩
