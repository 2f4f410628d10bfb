/-! ===== a whole text, as the class reads it ===== -/
theorem zx_tellC {sw b : Bool} {I : zI} {J : zJ} {T : Nat → Nat} {n t i : Nat} {σ : zx_S} (hr : zE_R sw 7 2 = zE_h b) (hP : zx_P T n t σ) (h : zx_C b T n I J t σ) (hi : i < 500) (h0 : zt_K T n t ≠ 0) : ∃ I2 J2, s_X3_readText_34 7 2 (zE_R sw) (nI i, I, J) = some (.inl (nI (i + 1), I2, J2)) ∧ zx_RC b T n I2 J2 (zx_tell T n t σ) := by
  have ht := hP.1
  have hg := hP.2.1
  have kb := zp_K h.2.1 t
  obtain ⟨x1, -, -⟩ := h.2.1.2.2 t ht hg
  have hd : s_X3_readText_34 7 2 (zE_R sw) (nI i, I, J) = if nI (zt_K T n t) = 19 then (f_X3_readCut 7 2 I (zE_R sw) J).bind fun q19 => some (.inl (nI (i + 1), q19.1, q19.2)) else (if nI (zt_K T n t) = 20 then (f_X3_readRough 7 2 I (zE_R sw) J).bind fun q22 => some (.inl (nI (i + 1), q22.1, q22.2)) else (if nI (zt_K T n t) = 21 then (f_X3_readGrade 7 2 I (zE_R sw) J).bind fun q24 => some (.inl (nI (i + 1), q24.1, q24.2)) else (if nI (zt_K T n t) = 22 then (f_X3_readPrice 7 2 I (zE_R sw) J).bind fun q26 => some (.inl (nI (i + 1), q26.1, q26.2)) else ((f_X3_readStuff 7 2 I (zE_R sw) J).bind fun q27 => some (.inl (nI (i + 1), q27.1, q27.2)))))) := by
    unfold s_X3_readText_34 j_X3_readText_137_34
    simp only [zE_gC, zE_rC sw, zE_sC, zw_g_t, zw_let_e, h.1.2.1, zE_in (show t < 501 by omega) (by decide), zE_cl (show t < 2 ^ 31 by omega), x1, nI_1]
    rw [if_neg (show ¬ (500 : Int32) ≤ nI i from nI_ge (b := 500) hi (by decide)), if_neg (show ¬ ¬ I 7 0 = 0 from fun r => r h.1.1), if_neg (show ¬ nI (zt_K T n t) = 0 from zr_ne (b := 0) h0 (by omega) (by decide))]
  have ne : ∀ k : Nat, k ≤ 36 → zt_K T n t ≠ k → ¬ nI (zt_K T n t) = nI k := fun k hk hn => zr_ne hn (by omega) (by omega)
  rw [hd]
  unfold zx_tell
  by_cases c1 : zt_K T n t = 19
  · rw [if_pos (show nI (zt_K T n t) = 19 by rw [c1]; rfl), if_pos c1]
    obtain ⟨I2, J2, r1, r2⟩ := zx_cutC (sw := sw) hr hP h c1
    exact ⟨I2, J2, by rw [r1, Option.bind_some], r2⟩
  · rw [if_neg (show ¬ nI (zt_K T n t) = 19 from ne 19 (by decide) c1), if_neg c1]
    by_cases c2 : zt_K T n t = 20
    · rw [if_pos (show nI (zt_K T n t) = 20 by rw [c2]; rfl), if_pos c2]
      obtain ⟨I2, J2, r1, r2⟩ := zx_roughC (sw := sw) hr hP h c2
      exact ⟨I2, J2, by rw [r1, Option.bind_some], r2⟩
    · rw [if_neg (show ¬ nI (zt_K T n t) = 20 from ne 20 (by decide) c2), if_neg c2]
      by_cases c3 : zt_K T n t = 21
      · rw [if_pos (show nI (zt_K T n t) = 21 by rw [c3]; rfl), if_pos c3]
        obtain ⟨I2, J2, r1, r2⟩ := zx_gradeC (sw := sw) hr hP h c3
        exact ⟨I2, J2, by rw [r1, Option.bind_some], r2⟩
      · rw [if_neg (show ¬ nI (zt_K T n t) = 21 from ne 21 (by decide) c3), if_neg c3]
        by_cases c4 : zt_K T n t = 22
        · rw [if_pos (show nI (zt_K T n t) = 22 by rw [c4]; rfl), if_pos c4]
          obtain ⟨I2, J2, r1, r2⟩ := zx_priceC (sw := sw) hr hP h c4
          exact ⟨I2, J2, by rw [r1, Option.bind_some], r2⟩
        · rw [if_neg (show ¬ nI (zt_K T n t) = 22 from ne 22 (by decide) c4), if_neg c4]
          obtain ⟨I2, J2, r1, r2⟩ := zx_stuffC (sw := sw) hr hP h
          exact ⟨I2, J2, by rw [r1, Option.bind_some], r2⟩
theorem zx_textC {sw b : Bool} {T : Nat → Nat} {n : Nat} (hr : zE_R sw 7 2 = zE_h b) : ∀ (f t i N : Nat) (I : zI) (J : zJ) (σ : zx_S), zx_P T n t σ → zx_C b T n I J t σ → 2 * i ≤ t → 501 - t ≤ f → f + 2 ≤ N → ∃ I2 J2, zw_it (s_X3_readText_34 7 2 (zE_R sw)) N (nI i, I, J) = some (I2, J2) ∧ zx_RC b T n I2 J2 (zx_text T n f t σ)
  | 0, t, i, N, I, J, σ, hP, h, hi, hf, hN => by have := hP.1; omega
  | f + 1, t, i, N, I, J, σ, hP, h, hi, hf, hN => by
    obtain ⟨N, rfl⟩ : ∃ N', N = N' + 2 := ⟨N - 2, by omega⟩
    have ht := hP.1
    have hg := hP.2.1
    unfold zx_text
    by_cases c : zt_K T n t = 0
    · rw [if_pos c]
      obtain ⟨x1, -, -⟩ := h.2.1.2.2 t ht hg
      refine ⟨I, J, zE_it0 (N + 1) ?_, h⟩
      unfold s_X3_readText_34
      simp only [zE_gC, zE_rC sw, zE_sC, zw_g_t, zw_let_e, h.1.2.1, zE_in (show t < 501 by omega) (by decide), zE_cl (show t < 2 ^ 31 by omega), x1]
      rw [if_neg (show ¬ (500 : Int32) ≤ nI i from nI_ge (b := 500) (by omega) (by decide)), if_neg (show ¬ ¬ I 7 0 = 0 from fun r => r h.1.1), if_pos (show nI (zt_K T n t) = 0 by rw [c]; rfl)]
    · rw [if_neg c]
      obtain ⟨I1, J1, r1, r2⟩ := zx_tellC (sw := sw) (i := i) hr hP h (by omega) c
      have ok := zx_tell_ok hP
      rw [zE_it1 (N + 1) r1]
      cases hT : zx_tell T n t σ with
      | inr y =>
        rw [hT] at r2
        have r2 : zx_FF b T n I1 y.1 y.2 := r2
        refine ⟨I1, J1, zE_it0 N ?_, r2⟩
        unfold s_X3_readText_34
        rw [if_neg (show ¬ (500 : Int32) ≤ nI (i + 1) from nI_ge (b := 500) (by omega) (by decide)), show zw_gc 7 3 = true by simp only [zE_gC], zw_g_t, if_pos r2.ne]
      | inl x =>
        rw [hT] at r2 ok
        have r2 : zx_C b T n I1 J1 x.1 x.2 := r2
        obtain ⟨o1, o2⟩ := ok
        exact zx_textC hr f x.1 (i + 1) (N + 1) I1 J1 x.2 o2 r2 (by omega) (by omega) (by omega)
theorem zx_text_ok {T : Nat → Nat} {n : Nat} : ∀ (f t : Nat) (σ : zx_S), zx_P T n t σ → 501 - t ≤ f → match zx_text T n f t σ with
    | .inl x => zx_P T n x.1 x.2 ∧ zt_K T n x.1 = 0
    | .inr y => y.1 = 1 ∨ y.1 = 2
  | 0, t, σ, hP, hf => by have := hP.1; omega
  | f + 1, t, σ, hP, hf => by
    unfold zx_text
    by_cases c : zt_K T n t = 0
    · rw [if_pos c]; exact ⟨hP, c⟩
    · rw [if_neg c]
      have ok := zx_tell_ok hP
      cases hT : zx_tell T n t σ with
      | inr y => rw [hT] at ok; exact ok
      | inl x =>
        rw [hT] at ok
        exact zx_text_ok f x.1 x.2 ok.2 (by have := ok.1; omega)
theorem zx_HC_full {b : Bool} {I : zI} {H : zq_H} (hK : zq_HK H) (h : zx_HC b I H) : zq_HC b I H := ⟨h.1, h.2.1, h.2.2.1, h.2.2.2.1, fun k hk => h.2.2.2.2 k hk (by have := (hK.2.2.2.2 k hk).t1; omega)⟩
/-- nothing told yet -/
def zx_H0 : zq_H := ((0, 0, 0, fun _ _ => 0, fun _ _ => 0, fun _ => 0, fun _ => zx_d0) : Nat × Nat × Nat × (Nat → Nat → Nat) × (Nat → Nat → Nat) × (Nat → Nat) × (Nat → zq_D))
def zx_s0 : zx_S := (zx_H0, (0, 0, fun _ => [], fun _ => []), [], (0, 0))
theorem zx_P0 (T : Nat → Nat) (n : Nat) : zx_P T n 0 zx_s0 := by
  refine ⟨by decide, fun j hj => absurd hj (Nat.not_lt_zero _), by decide, by decide, by decide, by decide, by decide, rfl, fun u hu => absurd hu List.not_mem_nil, fun q => absurd rfl q, fun _ => ⟨⟨by decide, by decide, by decide, fun _ _ => ⟨Nat.zero_le _, Nat.zero_le _, Nat.zero_le _⟩, fun k hk => ?_⟩, by decide, by decide, fun k hk => ?_⟩⟩
  · have hk : k < 0 ∨ (6 ≤ k ∧ k < 6 + 0) := hk
    omega
  · have hk : k < 0 ∨ (8 ≤ k ∧ k < 8 + 0) := hk
    omega
/-- what readText leaves -/
def zx_RT (b : Bool) (T : Nat → Nat) (n : Nat) (I : zI) (ω : zx_O) : Prop := match ω with
  | .inl x => I 7 0 = nI x.2.2.2.2.1 ∧ I 7 1 = zx_pl x.2.2.2.2 ∧ (x.2.2.2.2.1 = 0 → zx_HC b I x.2.1 ∧ zr_QC b I x.2.2.1)
  | .inr y => I 7 0 = nI y.1 ∧ I 7 1 = nI (zt_a T n y.2)
theorem zx_readC {sw b : Bool} {I : zI} {J : zJ} {T : Nat → Nat} {n : Nat} (hr : zE_R sw 7 2 = zE_h b) (hX : zp_X T n I J) (hT : zt_TC I T n) : ∃ I2 J2, f_X3_readText 7 2 I (zE_R sw) J = some (I2, J2) ∧ zx_RT b T n I2 (zx_text T n 501 0 zx_s0) := by
  have hb := zE_hb b
  have g7 : zw_gc 7 3 = true := by simp only [zE_gC]
  have gh := (zE_gH b).1
  obtain ⟨K, eK⟩ : ∃ K, K = zw_u (zw_u (zw_u (zw_u (zw_u I 7 0 0) 7 1 (-1)) 7 4 0) 7 5 (-1)) 7 3 0 := ⟨_, rfl⟩
  obtain ⟨L, eL⟩ : ∃ L, L = zw_u (zw_u (zw_u (zw_u (zw_u (zw_u (zw_u K (zE_h b) 1 0) (zE_h b) 3 0) (zE_h b) 5 0) (zE_h b) 7 0) (zE_h b) 9 0) (zE_h b) 11 0) (zE_h b) 14 0 := ⟨_, rfl⟩
  have hd : f_X3_readText 7 2 I (zE_R sw) J = (zw_it (s_X3_readText_34 7 2 (zE_R sw)) 1000000 (0, L, J)).bind fun q28 => (j_X3_readText_143 7 q28.1 (zE_R sw) q28.2) := by
    unfold f_X3_readText f_X1_empty
    rw [g7, zw_g_t, zw_let_e, zw_let_e, zw_let_e, zw_let_e, zw_let_e, hr, gh, zw_g_t, zw_g_t, ← eK, zw_let_e, zw_let_e, zw_let_e, zw_let_e, zw_let_e, zw_let_e, zw_let_e, ← eL, Option.bind_some]
  have fK : ∀ a, a ≠ 7 → K a = I a := fun a ha => by rw [eK, zw_u_off _ _ _ ha, zw_u_off _ _ _ ha, zw_u_off _ _ _ ha, zw_u_off _ _ _ ha, zw_u_off _ _ _ ha]
  have fL : ∀ a, a ≠ zE_h b → L a = K a := fun a ha => by rw [eL, zw_u_off _ _ _ ha, zw_u_off _ _ _ ha, zw_u_off _ _ _ ha, zw_u_off _ _ _ ha, zw_u_off _ _ _ ha, zw_u_off _ _ _ ha, zw_u_off _ _ _ ha]
  have L7 : L 7 = K 7 := fL 7 (by omega)
  have hL : ∀ y, y = 1 ∨ y = 3 ∨ y = 5 ∨ y = 7 ∨ y = 9 ∨ y = 11 ∨ y = 14 → L (zE_h b) y = 0 := by
    intro y hy
    rw [eL]
    unfold zw_u
    rcases hy with rfl | rfl | rfl | rfl | rfl | rfl | rfl <;> simp
  have C0 : zx_C b T n L J 0 zx_s0 := by
    refine ⟨⟨?_, ?_, ?_, ?_⟩, zp_X_tr hX ((fL 4 (by omega)).trans (fK 4 (by decide))) ((fL 5 (by omega)).trans (fK 5 (by decide))) rfl, zt_TC_tr hT ((fL 2 (by omega)).trans (fK 2 (by decide))) ((fL 3 (by omega)).trans (fK 3 (by decide))), ⟨0, Nat.le_refl _, hL 11 (by omega), fun v => ⟨fun ⟨i, hi, _⟩ => absurd hi (Nat.not_lt_zero _), fun ⟨u, hu, _⟩ => absurd hu List.not_mem_nil⟩⟩, hL 1 (by omega), hL 3 (by omega), hL 5 (by omega), hL 7 (by omega), hL 9 (by omega), 0, Nat.le_refl _, hL 14 (by omega), fun _ => ⟨⟨hL 1 (by omega), hL 3 (by omega), hL 5 (by omega), fun k hk => absurd hk (Nat.not_lt_zero _), fun k hk => ?_⟩, fun k hk => ?_⟩⟩
    · rw [L7, eK, zE_u2 _ _ (by omega), zE_u2 _ _ (by omega), zE_u2 _ _ (by omega), zE_u2 _ _ (by omega), zE_u1]
    · rw [L7, eK, zE_u1]; rfl
    · rw [L7, eK, zE_u2 _ _ (by omega), zE_u2 _ _ (by omega), zE_u1]; rfl
    · rw [L7, eK, zE_u2 _ _ (by omega), zE_u1]; rfl
    · have hk : k < 0 ∨ (6 ≤ k ∧ k < 6 + 0) := hk
      omega
    · have hk : k < 0 ∨ (8 ≤ k ∧ k < 8 + 0) := hk
      omega
  obtain ⟨I2, J2, r1, r2⟩ := zx_textC (sw := sw) hr 501 0 0 1000000 L J zx_s0 (zx_P0 T n) C0 (by omega) (by omega) (by omega)
  have r1 : zw_it (s_X3_readText_34 7 2 (zE_R sw)) 1000000 (0, L, J) = some (I2, J2) := r1
  rw [hd, r1, Option.bind_some]
  unfold j_X3_readText_143
  rw [g7, zw_g_t]
  cases hX2 : zx_text T n 501 0 zx_s0 with
  | inr y =>
    rw [hX2] at r2
    have r2 : zx_FF b T n I2 y.1 y.2 := r2
    rw [if_pos r2.ne]
    exact ⟨I2, J2, rfl, r2.2.1, r2.2.2.1⟩
  | inl x =>
    rw [hX2] at r2
    obtain ⟨⟨b0, b3, b4, b5⟩, a2, a3, a4, a5, a6, a7, a8, a9, cl, a10, a11, a12⟩ := (r2 : zx_C b T n I2 J2 x.1 x.2)
    rw [if_neg (fun r => r b0), zw_let_e, zw_let_e]
    refine ⟨_, J2, rfl, ?_, ?_, fun h0 => ?_⟩
    · rw [zE_u2 _ _ (by omega), zE_u1]; exact b4
    · rw [zE_u1, zE_u2 _ _ (by omega)]; exact b5
    · have ok := zx_text_ok (T := T) (n := n) 501 0 zx_s0 (zx_P0 T n) (by omega)
      rw [hX2] at ok
      obtain ⟨p1, p2, p3, p4, p5, p6, p7, -⟩ := ok.1
      obtain ⟨c1, c2⟩ := a12 h0
      have f : ∀ a, a ≠ 7 → zw_u (zw_u I2 7 0 (I2 7 4)) 7 1 (zw_u I2 7 0 (I2 7 4) 7 5) a = I2 a := fun a ha => by rw [zw_u_off _ _ _ ha, zw_u_off _ _ _ ha]
      refine ⟨zx_HC_tr p3 p4 p5 c1 (fun a x1 x2 => f a (by omega)) (by rw [f _ (by omega)]) (by rw [f _ (by omega)]) (by rw [f _ (by omega)]), by rw [f _ (by omega)]; exact a8, by rw [f _ (by omega)]; exact a9, cl, by omega, by rw [f _ (by omega)]; exact a11, fun k hk => ?_⟩
      have k16 := zx_has16 p6 p7 hk
      exact zx_RC_tr (c2 k hk) (f _ (by omega)) (fun i _ => by rw [f (zE_h b + 7) (by omega), f (zE_h b + 8) (by omega)]; exact ⟨rfl, rfl⟩) (Nat.le_refl _)
