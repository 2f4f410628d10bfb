/-! ===== names in the model ===== -/
theorem zn_30 (a c : Nat) : 30 * nI a + nI c = nI (30 * a + c) := by
  rw [show (30 : Int32) = nI 30 from rfl, pk_mul, nI_add]
theorem zn_loopM {sw : Bool} {T : Nat → Nat} {n t k sd : Nat} {I0 : zI} {J : zJ} (hY : zp_Y T n I0 J) (h13 : I0 148 13 = 0) (ht : t ≤ 500) (hg : zt_go T n t) (hsd : sd < 2) (h19 : I0 148 19 = nI sd) (h156 : I0 156 sd = nI k) (hk : k ≤ 30) : ∀ (d s N : Nat) (I : zI) (q : Nat × Nat), s + d = k → d + 1 ≤ N → zn_L I0 I q → q.1 ≤ 9 → q.2 ≤ 2000 → ∃ I2, zw_it (s_X11_named_20 148 (nI t) (zE_R sw) J) N (nI s, I) = some I2 ∧ (((∀ i, s ≤ i → i < k → J 157 (30 * sd + i) ≠ J 154 t) ∧ zn_L I0 I2 q) ∨ ((∃ i, s ≤ i ∧ i < k ∧ J 157 (30 * sd + i) = J 154 t) ∧ zn_L I0 I2 (zn_w q 3 (zt_a T n t))))
  | d, s, 0, I, q, _, hN, _, _, _ => absurd hN (by omega)
  | 0, s, N + 1, I, q, hs, _, h, _, _ => by
    have es : s = k := hs
    subst es
    have e19 : I 148 19 = nI sd := (h.2.2.2 19 (by decide) (by decide)).trans h19
    have e156 : I 156 sd = nI s := by rw [h.1 156 (by decide)]; exact h156
    refine ⟨I, zE_it0 N ?_, Or.inl ⟨fun i h1 h2 => absurd h2 (by omega), h⟩⟩
    unfold s_X11_named_20
    simp only [zE_gM, zE_rM sw, zE_sM, zw_g_t, zw_let_e, e19, zE_in (show sd < 2 from hsd) (by decide), zE_cl (show sd < 2 ^ 31 by omega), e156]
    rw [if_pos (Int32.le_refl _)]
  | d + 1, s, N + 1, I, q, hs, hN, h, b1, b2 => by
    have e19 : I 148 19 = nI sd := (h.2.2.2 19 (by decide) (by decide)).trans h19
    have e156 : I 156 sd = nI k := by rw [h.1 156 (by decide)]; exact h156
    have hp : zt_a T n t ≤ 2000 := Nat.le_trans (zt_a_le T n t) hY.1
    have st : s_X11_named_20 148 (nI t) (zE_R sw) J (nI s, I) = if ¬ lg_cmp (J 157 (30 * sd + s)) (J 154 t) = 0 then some (.inl (nI (s + 1), I)) else (f_X11_wrong 148 3 (nI t) I (zE_R sw)).bind fun q15 => some (.inl (nI (s + 1), q15)) := by
      unfold s_X11_named_20 j_X11_named_63_20
      simp only [zE_gM, zE_rM sw, zE_sM, zw_g_t, zw_let_e, e19, zE_in (show sd < 2 from hsd) (by decide), zE_cl (show sd < 2 ^ 31 by omega), e156]
      rw [if_neg (nI_ge (b := k) (show s < k by omega) (by omega))]
      simp only [zn_30, zE_in (show 30 * sd + s < 60 by omega) (by decide), zE_cl (show 30 * sd + s < 2 ^ 31 by omega), zE_in (show t < 503 by omega) (by decide), zE_cl (show t < 2 ^ 31 by omega), zw_g_t, nI_1]
    by_cases c : J 157 (30 * sd + s) = J 154 t
    · rw [if_neg (fun r => r ((lg_cmp_eq _ _).mpr c))] at st
      obtain ⟨I1, w1, w2⟩ := zn_wrong (sw := sw) (f := 3) hY h h13 ht hg b1 b2 (by decide) hp
      have w1 : f_X11_wrong 148 3 (nI t) I (zE_R sw) = some I1 := w1
      rw [w1, Option.bind_some] at st
      have wb := zn_w_b b1 b2 (show 3 ≤ 9 by decide) hp
      obtain ⟨I2, r1, r2⟩ := zn_loopM (sw := sw) hY h13 ht hg hsd h19 h156 hk d (s + 1) N I1 _ (by omega) (by omega) w2 wb.1 wb.2
      refine ⟨I2, (zE_it1 N st).trans r1, Or.inr ⟨⟨s, Nat.le_refl _, by omega, c⟩, ?_⟩⟩
      rcases r2 with r2 | r2
      · exact r2.2
      · have := r2.2
        rw [zn_w_w q (show (3 : Nat) ≠ 0 by decide)] at this
        exact this
    · rw [if_pos (fun r => c ((lg_cmp_eq _ _).mp r))] at st
      obtain ⟨I2, r1, r2⟩ := zn_loopM (sw := sw) hY h13 ht hg hsd h19 h156 hk d (s + 1) N I q (by omega) (by omega) h b1 b2
      refine ⟨I2, (zE_it1 N st).trans r1, ?_⟩
      rcases r2 with ⟨r2, r3⟩ | ⟨⟨i, r2, r4, r5⟩, r3⟩
      · refine Or.inl ⟨fun i h1 h2 => ?_, r3⟩
        by_cases e : i = s
        · rw [e]; exact c
        · exact r2 i (by omega) h2
      · exact Or.inr ⟨⟨i, by omega, r4, r5⟩, r3⟩
