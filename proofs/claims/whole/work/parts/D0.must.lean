/-! ===== a token that must be there, in the model ===== -/
theorem zm_must {sw : Bool} {T : Nat → Nat} {n : Nat} {I0 I : zI} {J : zJ} {t kc : Nat} {kv : Int32} (hY : zp_Y T n I0 J) (h : zm_T T n I0 I t (0, 0)) (ht : t ≤ 500) (hg : zt_go T n t) (hk : kc ≤ 35) (ekv : kv = nI (zt_mk kc)) : ∃ I2, f_X11_must 148 kv I (zE_R sw) = some I2 ∧ ((zt_K T n t = kc ∧ t < 500 ∧ zm_T T n I0 I2 (t + 1) (0, 0)) ∨ (¬ (zt_K T n t = kc ∧ t < 500) ∧ zm_T T n I0 I2 t (if zt_K T n t = kc then 2 else 1, t))) := by
  have hi := zp_is (sw := sw) (zm_T_Y hY h) ht hg h.2.1 h.2.2.2.1 hk ekv
  unfold f_X11_must
  rw [zp_g148.1, zw_g_t, hi, Option.bind_some]
  by_cases c : zt_K T n t = kc
  · rw [if_neg (show ¬ zr_b (decide (zt_K T n t = kc)) = 0 by rw [decide_eq_true c]; decide)]
    by_cases c2 : t < 500
    · obtain ⟨I2, o1, o2⟩ := zm_T_on (sw := sw) h c2
      exact ⟨I2, by rw [o1, Option.bind_some], Or.inl ⟨c, c2, o2⟩⟩
    · obtain ⟨I2, o1, o2⟩ := zm_T_end (sw := sw) hY h (by omega) hg
      exact ⟨I2, by rw [o1, Option.bind_some], Or.inr ⟨fun r => c2 r.2, by rw [if_pos c]; exact o2⟩⟩
  · rw [if_pos (show zr_b (decide (zt_K T n t = kc)) = 0 by rw [decide_eq_false c]; rfl)]
    obtain ⟨I2, o1, o2⟩ := zm_T_fail (sw := sw) hY h ht hg 1
    have o1 : f_X11_fail 148 1 I (zE_R sw) = some I2 := o1
    exact ⟨I2, by rw [o1, Option.bind_some], Or.inr ⟨fun r => c r.1, by rw [if_neg c]; exact o2⟩⟩
theorem zm_mustF {sw : Bool} {I : zI} {f : Nat} {kv : Int32} (hf : f = 1 ∨ f = 2) (h : I 148 13 = nI f) : f_X11_must 148 kv I (zE_R sw) = some I := by
  have n13 : ¬ I 148 13 = 0 := by rw [h]; rcases hf with rfl | rfl <;> decide
  unfold f_X11_must
  rw [zp_g148.1, zw_g_t, zp_isF n13, Option.bind_some, if_pos rfl, zp_failF hf h, Option.bind_some]
/-- a name in the model -/
theorem zm_named {sw : Bool} {T : Nat → Nat} {n t k sd : Nat} {I : zI} {J : zJ} {q : Nat × Nat} (hY : zp_Y T n I J) (h13 : I 148 13 = 0) (h11 : I 148 11 = nI t) (ht : t ≤ 500) (hg : zt_go T n t) (hsd : sd < 2) (h19 : I 148 19 = nI sd) (h156 : I 156 sd = nI k) (hk : k < 30) (h15 : I 148 15 = nI q.1) (h16 : I 148 16 = nI q.2) (b1 : q.1 ≤ 9) (b2 : q.2 ≤ 2000) : (∃ I2 q2, zt_K T n t = 2 ∧ t < 500 ∧ f_X11_named 148 I (zE_R sw) J = some (zw_u I2 156 sd (nI (k + 1)), zw_u J 157 (30 * sd + k) (J 154 t)) ∧ (∀ a, a ≠ 148 → I2 a = I a) ∧ I2 148 11 = nI (t + 1) ∧ I2 148 15 = nI q2.1 ∧ I2 148 16 = nI q2.2 ∧ (∀ y, y ≠ 11 → y ≠ 14 → y ≠ 15 → y ≠ 16 → I2 148 y = I 148 y) ∧ (((∀ i, i < k → J 157 (30 * sd + i) ≠ J 154 t) ∧ q2 = q) ∨ ((∃ i, i < k ∧ J 157 (30 * sd + i) = J 154 t) ∧ q2 = zn_w q 3 (zt_a T n t)))) ∨ (∃ I2, ¬ (zt_K T n t = 2 ∧ t < 500) ∧ f_X11_named 148 I (zE_R sw) J = some (I2, J) ∧ zm_T T n I I2 t (if zt_K T n t = 2 then 2 else 1, t)) := by
  have T0 : zm_T T n I I t (0, 0) := ⟨fun _ _ => rfl, h13, fun r => absurd rfl r, h11, fun _ _ _ _ => rfl⟩
  obtain ⟨I1, m1, m2⟩ := zm_must (sw := sw) (kc := 2) (kv := 1) hY T0 ht hg (by decide) rfl
  rcases m2 with ⟨c1, c2, c3⟩ | ⟨c1, c3⟩
  · refine Or.inl ?_
    obtain ⟨a1, a2, a3, a4, a5⟩ := id c3
    have k19 : I1 148 19 = nI sd := (a5 19 (by decide) (by decide) (by decide)).trans h19
    have k156 : I1 156 sd = nI k := by rw [a1 156 (by decide)]; exact h156
    obtain ⟨I2, l1, l2⟩ := zn_loopM (sw := sw) (zm_T_Y hY c3) a2 ht hg hsd k19 k156 (by omega) k 0 1000000 I1 q (by omega) (by omega) ⟨fun _ _ => rfl, (a5 15 (by decide) (by decide) (by decide)).trans h15, (a5 16 (by decide) (by decide) (by decide)).trans h16, fun _ _ _ => rfl⟩ b1 b2
    have l1 : zw_it (s_X11_named_20 148 (nI t) (zE_R sw) J) 1000000 (0, I1) = some I2 := l1
    have fin : ∀ q2, zn_L I1 I2 q2 → f_X11_named 148 I (zE_R sw) J = some (zw_u I2 156 sd (nI (k + 1)), zw_u J 157 (30 * sd + k) (J 154 t)) ∧ (∀ a, a ≠ 148 → I2 a = I a) ∧ I2 148 11 = nI (t + 1) ∧ I2 148 15 = nI q2.1 ∧ I2 148 16 = nI q2.2 ∧ (∀ y, y ≠ 11 → y ≠ 14 → y ≠ 15 → y ≠ 16 → I2 148 y = I 148 y) := by
      intro q2 hq
      obtain ⟨d1, d2, d3, d4⟩ := hq
      have e19 : I2 148 19 = nI sd := (d4 19 (by decide) (by decide)).trans k19
      have e156 : I2 156 sd = nI k := by rw [d1 156 (by decide)]; exact k156
      refine ⟨?_, fun a ha => (d1 a ha).trans (a1 a ha), (d4 11 (by decide) (by decide)).trans a4, d2, d3, fun y x1 x2 x3 x4 => ?_⟩
      · unfold f_X11_named
        rw [zp_g148.1, zw_g_t, zw_let_e, m1, Option.bind_some, if_pos (show I1 148 13 ≤ 0 by rw [a2]; decide), h11, l1, Option.bind_some]
        simp only [zE_gM, zE_rM sw, zE_sM, zw_g_t, zw_let_e, e19, zE_in (show sd < 2 from hsd) (by decide), zE_cl (show sd < 2 ^ 31 by omega), e156, zE_in (show t < 503 by omega) (by decide), zE_cl (show t < 2 ^ 31 by omega), zn_30, zE_in (show 30 * sd + k < 60 by omega) (by decide), zE_cl (show 30 * sd + k < 2 ^ 31 by omega), nI_1]
      · by_cases x5 : y = 13
        · rw [x5, d4 13 (by decide) (by decide), a2, h13]; rfl
        · exact (d4 y x3 x4).trans (a5 y x1 x5 x2)
    rcases l2 with ⟨r1, r2⟩ | ⟨⟨i, r1, r3, r4⟩, r2⟩
    · obtain ⟨f1, f2, f3, f4, f5, f6⟩ := fin _ r2
      exact ⟨I2, q, c1, c2, f1, f2, f3, f4, f5, f6, Or.inl ⟨fun i hi => r1 i (Nat.zero_le _) hi, rfl⟩⟩
    · obtain ⟨f1, f2, f3, f4, f5, f6⟩ := fin _ r2
      exact ⟨I2, _, c1, c2, f1, f2, f3, f4, f5, f6, Or.inr ⟨⟨i, r3, r4⟩, rfl⟩⟩
  · refine Or.inr ⟨I1, c1, ?_, c3⟩
    have n13 : ¬ I1 148 13 ≤ 0 := by
      rw [c3.2.1]
      dsimp only
      split <;> decide
    unfold f_X11_named
    rw [zp_g148.1, zw_g_t, zw_let_e, m1, Option.bind_some, if_neg n13]
