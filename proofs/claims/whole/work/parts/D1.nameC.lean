/-! ===== a name in the class ===== -/
theorem zc_takeName {sw b : Bool} {I : zI} {J : zJ} {T : Nat → Nat} {n t k : Nat} (hr : zE_R sw 7 2 = zE_h b) (hX : zp_X T n I J) (ht : t ≤ 500) (hg : zt_go T n t) (h0 : I 7 0 = 0) (h3 : I 7 3 = nI t) (h11 : I (zE_h b) 11 = nI k) (hk : k < 30) : (zt_K T n t = 2 ∧ t < 500 ∧ (((∀ i, i < k → J (zE_h b + 6) i ≠ J 6 t) ∧ f_X3_takeName 7 2 I (zE_R sw) J = some (zw_u (zw_u I 7 3 (nI (t + 1))) (zE_h b) 11 (nI (k + 1)), zw_u J (zE_h b + 6) k (J 6 t))) ∨ ((∃ i, i < k ∧ J (zE_h b + 6) i = J 6 t) ∧ f_X3_takeName 7 2 I (zE_R sw) J = some (if ¬ I 7 4 = 0 then zw_u I 7 3 (nI (t + 1)) else zw_u (zw_u (zw_u I 7 3 (nI (t + 1))) 7 4 3) 7 5 (nI (zt_a T n t)), J)))) ∨ (¬ (zt_K T n t = 2 ∧ t < 500) ∧ f_X3_takeName 7 2 I (zE_R sw) J = some (zw_u (zw_u I 7 0 (nI (if zt_K T n t = 2 then 2 else 1))) 7 1 (nI (zt_a T n t)), J)) := by
  have hb := zE_hb b
  have gh := (zE_gH b).1
  obtain ⟨-, x2, -⟩ := hX.2.2 t ht hg
  have tk := zp_take (sw := sw) (k := 2) (kv := 2) (rv := 1) (rm := true) hX ht hg h0 h3 (by decide) rfl rfl
  have hd : f_X3_takeName 7 2 I (zE_R sw) J = (f_X3_take 7 2 2 1 I (zE_R sw)).bind fun q9 => (if q9.1 = 0 then some (q9.2, J) else ((f_X1_addName (zE_h b) (J 6 t) q9.2 (zE_R sw) J).bind fun q12 => (if ¬ q12.1 = 0 then some (q12.2.1, q12.2.2) else (f_X3_noteLater 7 3 (nI (zt_a T n t)) q12.2.1).bind fun q14 => (some (q14, q12.2.2))))) := by
    unfold f_X3_takeName
    simp only [zE_gC, zE_rC sw, zE_sC, hr, gh, zw_g_t, zw_let_e, h3, zE_in (show t < 501 by omega) (by decide), zE_cl (show t < 2 ^ 31 by omega), x2]
  rw [hd]
  by_cases c : zt_K T n t = 2 ∧ t < 500
  · rw [if_pos ⟨c.1, rfl, c.2⟩] at tk
    have k11 : zw_u I 7 3 (nI (t + 1)) (zE_h b) 11 = nI k := by rw [zw_u_off _ _ _ (by omega)]; exact h11
    rw [tk, Option.bind_some]
    dsimp only
    rw [if_neg zE_10]
    refine Or.inl ⟨c.1, c.2, ?_⟩
    rcases zn_add (sw := sw) (J := J) (J 6 t) k11 hk with ⟨p1, p2⟩ | ⟨p1, p2⟩
    · refine Or.inl ⟨p2, ?_⟩
      rw [p1, Option.bind_some]
      dsimp only
      rw [if_pos zE_10]
    · refine Or.inr ⟨p2, ?_⟩
      rw [p1, Option.bind_some]
      dsimp only
      rw [if_neg (fun r => r rfl)]
      have g7 : zw_gc 7 3 = true := by simp only [zE_gC]
      have e4 : zw_u I 7 3 (nI (t + 1)) 7 4 = I 7 4 := zE_u2 _ _ (by omega)
      unfold f_X3_noteLater
      rw [g7, zw_g_t, e4]
      by_cases c4 : I 7 4 = 0
      · rw [if_neg (fun r => r c4), zw_let_e, zw_let_e, Option.bind_some, if_neg (fun r => r c4)]
      · rw [if_pos c4, Option.bind_some, if_pos c4]
  · rw [if_neg (fun r => c ⟨r.1, r.2.2⟩)] at tk
    rw [tk, Option.bind_some]
    dsimp only
    rw [if_pos rfl]
    exact Or.inr ⟨c, rfl⟩
