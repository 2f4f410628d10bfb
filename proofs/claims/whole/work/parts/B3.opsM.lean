/-! ===== expressions are well formed; the model's small steps ===== -/
theorem zp_U_w {S : Nat → zp_O} {K V : Nat → Nat} {d t : Nat} {x : Nat × List zr_C} (hd : d ≤ 6) (hS : d < 6 → ∀ t x, S t = .inl x → zr_w (1 + 2 * (6 - d)) x.2 0 1) (h : zp_U S K V d t = .inl x) : zr_w (1 + 2 * (6 - d)) x.2 0 1 := by
  unfold zp_U at h
  by_cases c1 : K t = 12
  · rw [if_pos c1] at h
    by_cases c2 : d < 6 ∧ t < 500
    · rw [if_pos c2] at h
      cases hs : S (t + 1) with
      | inr y => rw [hs] at h; cases h
      | inl y =>
        rw [hs] at h
        dsimp only at h
        by_cases c3 : K y.1 = 13
        · rw [if_pos c3] at h
          by_cases c4 : y.1 < 500
          · rw [if_pos c4] at h
            cases h
            exact hS c2.1 (t + 1) y hs
          · rw [if_neg c4] at h; cases h
        · rw [if_neg c3] at h; cases h
    · rw [if_neg c2] at h; cases h
  · rw [if_neg c1] at h
    by_cases c2 : 28 ≤ K t ∧ K t ≤ 35
    · rw [if_pos c2] at h
      by_cases c3 : t < 500
      · rw [if_pos c3] at h
        cases h
        exact ⟨(by decide : (1 : Nat) ≤ 5), fun _ => ⟨by omega, fun _ => (zp_mvE (K t - 28) (by omega)).2, rfl⟩, fun q => absurd q (by decide : ¬ (2 : Nat) ≤ 1)⟩
      · rw [if_neg c3] at h; cases h
    · rw [if_neg c2] at h
      by_cases c4 : K t = 3
      · rw [if_pos c4] at h
        by_cases c3 : t < 500
        · rw [if_pos c3] at h
          cases h
          exact ⟨(by decide : (0 : Nat) ≤ 5), fun _ => ⟨by omega, fun q => absurd q (by decide : ¬ (0 : Nat) = 1), rfl⟩, fun q => absurd q (by decide : ¬ (2 : Nat) ≤ 0)⟩
        · rw [if_neg c3] at h; cases h
      · rw [if_neg c4] at h; cases h
theorem zp_op_w {D k h : Nat} (hk : 2 ≤ k ∧ k ≤ 5) (hh : 2 ≤ h) : zr_w D [(k, 0)] h (h - 1) := ⟨hk.2, fun q => by have q : k < 2 := q; omega, fun _ => ⟨hh, rfl⟩⟩
theorem zp_M_w {U : Nat → zp_O} {K : Nat → Nat} {D : Nat} (hU : ∀ t x, U t = .inl x → zr_w D x.2 0 1) : ∀ (f t : Nat) (c : List zr_C) (x : Nat × List zr_C), zr_w (D + 1) c 0 1 → zp_M U K f t c = .inl x → zr_w (D + 1) x.2 0 1
  | 0, t, c, x, hc, h => by cases h; exact hc
  | f + 1, t, c, x, hc, h => by
    unfold zp_M at h
    by_cases c1 : K t = 10 ∨ K t = 11
    · rw [if_pos c1] at h
      by_cases c2 : t < 500
      · rw [if_pos c2] at h
        cases hs : U (t + 1) with
        | inr y => rw [hs] at h; cases h
        | inl y =>
          rw [hs] at h
          refine zp_M_w hU f y.1 _ x ?_ h
          have h2 := zr_w_up 1 (D + 1) (Nat.le_refl _) (hU (t + 1) y hs)
          exact zr_w_app hc (zr_w_app h2 (zp_op_w (h := 2) (by omega) (by decide)))
      · rw [if_neg c2] at h; cases h
    · rw [if_neg c1] at h; cases h; exact hc
theorem zp_P_w {U : Nat → zp_O} {K : Nat → Nat} {D : Nat} (hU : ∀ t x, U t = .inl x → zr_w D x.2 0 1) : ∀ (f t : Nat) (c : List zr_C) (w : Nat) (x : Nat × List zr_C), ((w = 0 ∧ c = [] ∧ f ≠ 0) ∨ ((w = 8 ∨ w = 9) ∧ zr_w (D + 2) c 0 1)) → zp_P U K f t c w = .inl x → zr_w (D + 2) x.2 0 1
  | 0, t, c, w, x, hc, h => by
    rcases hc with ⟨-, -, h0⟩ | ⟨-, hc⟩
    · exact absurd rfl h0
    · cases h; exact hc
  | f + 1, t, c, w, x, hc, h => by
    unfold zp_P at h
    cases hs : U t with
    | inr y => rw [hs] at h; cases h
    | inl y =>
      rw [hs] at h
      dsimp only at h
      cases hm : zp_M U K 500 y.1 y.2 with
      | inr z => rw [hm] at h; cases h
      | inl z =>
        rw [hm] at h
        dsimp only at h
        have h1 := zp_M_w hU 500 y.1 y.2 z (zr_w_up 0 (D + 1) (by omega) (hU t y hs)) hm
        have hw : zr_w (D + 2) (c ++ (z.2 ++ zp_w w)) 0 1 := by
          rcases hc with ⟨rfl, rfl, -⟩ | ⟨hw, hc⟩
          · show zr_w (D + 2) ([] ++ (z.2 ++ [])) 0 1
            rw [List.nil_append, List.append_nil]
            exact zr_w_up 0 (D + 2) (by omega) h1
          · have h2 := zr_w_up 1 (D + 2) (Nat.le_refl _) h1
            have h3 : zr_w (D + 2) (zp_w w) 2 1 := by
              unfold zp_w
              rw [if_neg (by omega)]
              exact zp_op_w (h := 2) (by omega) (by decide)
            exact zr_w_app hc (zr_w_app h2 h3)
        by_cases c1 : K z.1 = 8 ∨ K z.1 = 9
        · rw [if_pos c1] at h
          by_cases c2 : z.1 < 500
          · rw [if_pos c2] at h
            exact zp_P_w hU f _ _ _ x (Or.inr ⟨c1, hw⟩) h
          · rw [if_neg c2] at h; cases h
        · rw [if_neg c1] at h
          cases h
          exact hw
theorem zp_S_w {K V : Nat → Nat} : ∀ (m d t : Nat) (x : Nat × List zr_C), d + m = 8 → 2 ≤ m → zp_S K V m d t = .inl x → zr_w (3 + 2 * (6 - d)) x.2 0 1
  | 0, d, t, x, hd, hm, h => by omega
  | m + 1, d, t, x, hd, hm, h => by
    have hU : ∀ t x, zp_U (zp_S K V m (d + 1)) K V d t = .inl x → zr_w (1 + 2 * (6 - d)) x.2 0 1 := fun t x h => zp_U_w (by omega) (fun hd6 t x h => by
      have := zp_S_w m (d + 1) t x (by omega) (by omega) h
      rwa [show 3 + 2 * (6 - (d + 1)) = 1 + 2 * (6 - d) by omega] at this) h
    have := zp_P_w hU 500 t [] 0 x (Or.inl ⟨rfl, rfl, by decide⟩) h
    rwa [show 1 + 2 * (6 - d) + 2 = 3 + 2 * (6 - d) by omega] at this
/-- an E that was read is well formed -/
theorem zp_S_E {K V : Nat → Nat} {t : Nat} {x : Nat × List zr_C} (h : zp_S K V 8 0 t = .inl x) : zr_E x.2 := zp_S_w 8 0 t x rfl (by decide) h
/-! the model -/
def zp_Y (T : Nat → Nat) (n : Nat) (I : zI) (J : zJ) : Prop := n ≤ 2000 ∧ (∀ j, j < n → T j < 256) ∧ ∀ j, j ≤ 500 → zt_go T n j → zt_M1 T n I J j
theorem zp_Y_tr {T : Nat → Nat} {n : Nat} {I2 I : zI} {J2 J : zJ} (h : zp_Y T n I J) (h1 : I2 151 = I 151) (h2 : I2 152 = I 152) (h3 : I2 153 = I 153) (h4 : J2 154 = J 154) : zp_Y T n I2 J2 := ⟨h.1, h.2.1, fun j hj hg => zt_M1_tr (h.2.2 j hj hg) (by rw [h1]) (by rw [h2]) (by rw [h3]) (by rw [h4])⟩
theorem zt_kf_c (w : List Nat) : ∀ f s, zt_kf w f s = 2 ∨ zt_kf w f s < 18 + (s + f)
  | 0, s => Or.inl rfl
  | f + 1, s => by
    unfold zt_kf
    have := zt_kf_c w f (s + 1)
    split <;> omega
theorem zp_K35 {T : Nat → Nat} {n : Nat} (hT : ∀ j, j < n → T j < 256) (i : Nat) : zt_K T n i ≤ 35 := by
  unfold zt_K
  by_cases c : zt_a T n i < n
  · rw [if_pos c]
    have h1 := zt_kf_c (zt_w T n (zt_a T n i)) 18 0
    have h2 := (zt_sgB _ (hT _ c)).2
    unfold zt_k zt_wk
    generalize zt_kf (zt_w T n (zt_a T n i)) 18 0 = x at *
    generalize zt_sg (T (zt_a T n i)) = y at *
    split
    · split <;> omega
    · split
      · split <;> omega
      · split
        · split <;> omega
        · split
          · split
            · omega
            · split <;> omega
          · omega
  · rw [if_neg c]; omega
theorem zt_mk_in : ∀ a, a ≤ 35 → ∀ b, b ≤ 35 → (zt_mk a = zt_mk b ↔ a = b) := by decide +kernel
theorem zt_mk_b : ∀ a, a ≤ 35 → zt_mk a ≤ 37 := by decide +kernel
theorem zp_g148 : zw_gc 148 11 = true ∧ zw_gc 151 13 = true ∧ zw_gc 152 13 = true ∧ zw_gc 153 13 = true ∧ zw_gc 179 13 = true ∧ zw_gc 180 13 = true ∧ zw_gc 181 13 = true := ⟨by simp only [zE_gM], by simp only [zE_gM], by simp only [zE_gM], by simp only [zE_gM], by simp only [zE_gM], by simp only [zE_gM], by simp only [zE_gM]⟩
theorem zp_is {sw : Bool} {I : zI} {J : zJ} {T : Nat → Nat} {n t kc : Nat} {kv : Int32} (hY : zp_Y T n I J) (ht : t ≤ 500) (hg : zt_go T n t) (h0 : I 148 13 = 0) (h11 : I 148 11 = nI t) (hk : kc ≤ 35) (ekv : kv = nI (zt_mk kc)) : f_X11_is 148 kv I (zE_R sw) = some (zr_b (decide (zt_K T n t = kc))) := by
  subst ekv
  obtain ⟨c1, -⟩ := hY.2.2 t ht hg
  have kb := zp_K35 hY.2.1 t
  have b1 := zt_mk_b _ kb
  have b2 := zt_mk_b _ hk
  have mi := zt_mk_in _ kb _ hk
  unfold f_X11_is
  rw [if_neg (fun r => r h0)]
  simp only [zE_gM, zE_rM sw, zE_sM, zw_g_t, h11, zE_in (show t < 503 by omega) (by decide), zE_cl (show t < 2 ^ 31 by omega), c1]
  by_cases c : zt_K T n t = kc
  · rw [if_neg (fun r => r (by rw [c])), decide_eq_true c]; rfl
  · rw [if_pos (zr_ne (fun q => c (mi.mp q)) (by omega) (by omega)), decide_eq_false c]; rfl
theorem zp_isF {sw : Bool} {I : zI} {kv : Int32} (h0 : ¬ I 148 13 = 0) : f_X11_is 148 kv I (zE_R sw) = some 0 := by
  unfold f_X11_is
  rw [zp_g148.1, zw_g_t, if_pos h0]
theorem zp_fail {sw : Bool} {I : zI} {J : zJ} {T : Nat → Nat} {n t : Nat} (hY : zp_Y T n I J) (ht : t ≤ 500) (hg : zt_go T n t) (h0 : I 148 13 = 0) (h11 : I 148 11 = nI t) (kv : Int32) : f_X11_fail 148 kv I (zE_R sw) = some (zw_u (zw_u I 148 13 kv) 148 14 (nI (zt_a T n t))) := by
  obtain ⟨-, c2, -⟩ := hY.2.2 t ht hg
  have e1 : zw_u I 148 13 kv 148 11 = nI t := (zE_u2 _ _ (by omega)).trans h11
  have e2 : zw_u I 148 13 kv 152 t = nI (zt_a T n t) := by rw [zw_u_off _ _ _ (by decide)]; exact c2
  unfold f_X11_fail
  rw [zp_g148.1, zw_g_t, if_pos (show I 148 13 ≤ 0 by rw [h0]; decide), zw_let_e]
  simp only [zE_gM, zE_rM sw, zE_sM, zw_g_t, zw_let_e, e1, zE_in (show t < 503 by omega) (by decide), zE_cl (show t < 2 ^ 31 by omega), e2]
theorem zp_failF {sw : Bool} {I : zI} {f : Nat} (hf : f = 1 ∨ f = 2) (h0 : I 148 13 = nI f) (kv : Int32) : f_X11_fail 148 kv I (zE_R sw) = some I := by
  unfold f_X11_fail
  rw [zp_g148.1, zw_g_t, if_neg (show ¬ I 148 13 ≤ 0 by rw [h0]; rcases hf with rfl | rfl <;> decide)]
theorem zp_on {sw : Bool} {I : zI} {t : Nat} (h11 : I 148 11 = nI t) (ht : t < 500) : f_X11_goesOn 148 I (zE_R sw) = some (zw_u I 148 11 (nI (t + 1))) := by
  unfold f_X11_goesOn
  rw [zp_g148.1, zw_g_t, if_pos (show ¬ I 148 11 = 500 by rw [h11]; exact zr_ne (b := 500) (by omega) (by omega) (by decide)), zw_let_e, h11, nI_1]
theorem zp_onE {sw : Bool} {I I2 : zI} (h11 : I 148 11 = nI 500) (hf : f_X11_fail 148 2 I (zE_R sw) = some I2) : f_X11_goesOn 148 I (zE_R sw) = some I2 := by
  unfold f_X11_goesOn
  rw [zp_g148.1, zw_g_t, if_neg (show ¬ ¬ I 148 11 = 500 from fun r => r (by rw [h11]; rfl)), hf, Option.bind_some]
theorem zp_emit {sw : Bool} {I : zI} {m : Nat} (h44 : I 148 44 = nI m) (hm : m < 1040) (kv vv : Int32) : f_X11_emit 148 kv vv I (zE_R sw) = some (zw_u (zw_u (zw_u I 179 m kv) 180 m vv) 148 44 (nI (m + 1))) := by
  have e1 : zw_u I 179 m kv 148 44 = nI m := (zE_u2 _ _ (by omega)).trans h44
  have e2 : zw_u (zw_u I 179 m kv) 180 m vv 148 44 = nI m := (zE_u2 _ _ (by omega)).trans e1
  unfold f_X11_emit
  simp only [zE_gM, zE_rM sw, zE_sM, zw_g_t, zw_let_e, h44, e1, e2, zE_in hm (by decide), zE_cl (show m < 2 ^ 31 by omega), nI_1]
