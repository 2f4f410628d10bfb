/-! ===== the model: signs, one token, all tokens ===== -/
def zt_s1 (v : Int32) : Int32 := if ¬ v = 59 then if ¬ v = 40 then if ¬ v = 41 then if ¬ v = 43 then if ¬ v = 45 then if ¬ v = 42 then if ¬ v = 60 then if ¬ v = 47 then if ¬ v = 58 then if ¬ v = 44 then 3 else 16 else 5 else 15 else 13 else 10 else 9 else 8 else 7 else 6 else 4
theorem zt_s1E : ∀ c, c < 256 → zt_s1 (nI c) = nI (zt_mk (zt_sg c)) := by decide +kernel
theorem zt_sign44 {R : zR} {I : zI} {J : zJ} (v1 v : Int32) : j_X11_sign_44 148 v1 v 0 I R J = j_X11_sign_186 148 v1 0 (zt_s1 v) I R J := by
  unfold j_X11_sign_44 zt_s1
  rw [if_pos (show (0 : Int32) ≤ 0 by decide)]
  by_cases c0 : v = 59
  · rw [if_neg (fun r => r c0), if_neg (fun r => r c0)]
  · rw [if_pos c0, if_pos c0]
    by_cases c1 : v = 40
    · rw [if_neg (fun r => r c1), if_neg (fun r => r c1)]
    · rw [if_pos c1, if_pos c1]
      by_cases c2 : v = 41
      · rw [if_neg (fun r => r c2), if_neg (fun r => r c2)]
      · rw [if_pos c2, if_pos c2]
        by_cases c3 : v = 43
        · rw [if_neg (fun r => r c3), if_neg (fun r => r c3)]
        · rw [if_pos c3, if_pos c3]
          by_cases c4 : v = 45
          · rw [if_neg (fun r => r c4), if_neg (fun r => r c4)]
          · rw [if_pos c4, if_pos c4]
            by_cases c5 : v = 42
            · rw [if_neg (fun r => r c5), if_neg (fun r => r c5)]
            · rw [if_pos c5, if_pos c5]
              by_cases c6 : v = 60
              · rw [if_neg (fun r => r c6), if_neg (fun r => r c6)]
              · rw [if_pos c6, if_pos c6]
                by_cases c7 : v = 47
                · rw [if_neg (fun r => r c7), if_neg (fun r => r c7)]
                · rw [if_pos c7, if_pos c7]
                  by_cases c8 : v = 58
                  · rw [if_neg (fun r => r c8), if_neg (fun r => r c8)]
                  · rw [if_pos c8, if_pos c8]
                    by_cases c9 : v = 44
                    · rw [if_neg (fun r => r c9), if_neg (fun r => r c9)]
                    · rw [if_pos c9, if_pos c9]
theorem zt_sign186 {sw : Bool} {I : zI} {J : zJ} {m : Nat} (h : I 148 10 = nI m) (hm : m < 503) (v1 v4 v5 : Int32) : ∃ I2 J2, j_X11_sign_186 148 v1 v4 v5 I (zE_R sw) J = some (if v4 ≤ 0 then 1 else 2, I2, J2) ∧ zt_oM m I2 I J2 J v5 v1 0 0 := by
  obtain ⟨I2, J2, q1, q2⟩ := zt_token (sw := sw) (J := J) h hm v5 v1 0 0
  refine ⟨I2, J2, ?_, q2⟩
  unfold j_X11_sign_186
  simp only [zE_gM, zw_g_t, q1, Option.bind_some]
  split <;> rfl
/-- a sign: how long it is, its token -/
theorem zt_signM {sw : Bool} {I : zI} {J : zJ} {T : Nat → Nat} {n a m : Nat} (h : zt_TM I T n) (ha : a < n) (hm0 : I 148 10 = nI m) (hm : m < 503) : ∃ I2 J2, f_X11_sign 148 (nI a) (nI (T a)) (if a + 1 < n then nI (T (a + 1)) else 0) I (zE_R sw) J = some (nI (if a + 1 < n ∧ T (a + 1) = 61 ∧ (T a = 60 ∨ T a = 61 ∨ T a = 33) then 2 else 1), I2, J2) ∧ zt_oM m I2 I J2 J (nI (zt_mk (if a + 1 < n ∧ T (a + 1) = 61 ∧ (T a = 60 ∨ T a = 61 ∨ T a = 33) then (if T a = 60 then 15 else if T a = 61 then 16 else 17) else zt_sg (T a)))) (nI a) 0 0 := by
  have hn := h.1
  have ta := (h.2.2 a ha).2
  have one : ∃ I2 J2, j_X11_sign_44 148 (nI a) (nI (T a)) 0 I (zE_R sw) J = some (nI 1, I2, J2) ∧ zt_oM m I2 I J2 J (nI (zt_mk (zt_sg (T a)))) (nI a) 0 0 := by
    obtain ⟨I2, J2, q1, q2⟩ := zt_sign186 (sw := sw) (J := J) hm0 hm (nI a) 0 (zt_s1 (nI (T a)))
    rw [zt_s1E _ ta] at q2
    refine ⟨I2, J2, ?_, q2⟩
    rw [zt_sign44, q1]
    rfl
  have two : ∀ k : Nat, k = 11 ∨ k = 12 ∨ k = 14 → ∃ I2 J2, j_X11_sign_44 148 (nI a) (nI (T a)) (nI k) I (zE_R sw) J = some (nI 2, I2, J2) ∧ zt_oM m I2 I J2 J (nI k) (nI a) 0 0 := by
    intro k hk
    obtain ⟨I2, J2, q1, q2⟩ := zt_sign186 (sw := sw) (J := J) hm0 hm (nI a) (nI k) (nI k)
    have hk0 : ¬ nI k ≤ (0 : Int32) := nI_nle (by omega) (by omega)
    refine ⟨I2, J2, ?_, q2⟩
    unfold j_X11_sign_44
    rw [if_neg hk0, q1, if_neg hk0]
    rfl
  unfold f_X11_sign
  by_cases c1 : a + 1 < n
  · have tb := (h.2.2 (a + 1) c1).2
    rw [if_pos c1]
    by_cases c2 : T (a + 1) = 61
    · rw [if_pos (show nI (T (a + 1)) = (61 : Int32) by rw [c2]; rfl)]
      by_cases c4 : T a = 61
      · rw [if_neg (show ¬ ¬ nI (T a) = (61 : Int32) from fun r => r (by rw [c4]; rfl)), if_pos ⟨c1, c2, Or.inr (Or.inl c4)⟩, if_pos ⟨c1, c2, Or.inr (Or.inl c4)⟩, if_neg (show ¬ T a = 60 by omega), if_pos c4]
        exact two 11 (Or.inl rfl)
      · rw [if_pos (show ¬ nI (T a) = (61 : Int32) from zr_ne (b := 61) c4 (by omega) (by decide))]
        by_cases c5 : T a = 33
        · rw [if_neg (show ¬ ¬ nI (T a) = (33 : Int32) from fun r => r (by rw [c5]; rfl)), if_pos ⟨c1, c2, Or.inr (Or.inr c5)⟩, if_pos ⟨c1, c2, Or.inr (Or.inr c5)⟩, if_neg (show ¬ T a = 60 by omega), if_neg c4]
          exact two 12 (Or.inr (Or.inl rfl))
        · rw [if_pos (show ¬ nI (T a) = (33 : Int32) from zr_ne (b := 33) c5 (by omega) (by decide))]
          by_cases c3 : T a = 60
          · rw [if_neg (show ¬ ¬ nI (T a) = (60 : Int32) from fun r => r (by rw [c3]; rfl)), if_pos ⟨c1, c2, Or.inl c3⟩, if_pos ⟨c1, c2, Or.inl c3⟩, if_pos c3]
            exact two 14 (Or.inr (Or.inr rfl))
          · rw [if_pos (show ¬ nI (T a) = (60 : Int32) from zr_ne (b := 60) c3 (by omega) (by decide)), if_neg (fun r => by omega), if_neg (fun r => by omega)]
            exact one
    · rw [if_neg (show ¬ nI (T (a + 1)) = (61 : Int32) from zr_ne (b := 61) c2 (by omega) (by decide)), if_neg (fun r => c2 r.2.1), if_neg (fun r => c2 r.2.1)]
      exact one
  · rw [if_neg c1, if_neg (show ¬ (0 : Int32) = 61 by decide), if_neg (fun r => c1 r.1), if_neg (fun r => c1 r.1)]
    exact one
def zt_mn (T : Nat → Nat) (n a : Nat) : Nat := if zt_L (T a) = true then zt_en 27 (zt_rl T a (min 8 (zt_e T n a - a))) else 0
theorem zt_bl : ∀ c, c < 256 → (zt_B c = true ↔ nI c = 9 ∨ nI c = 10 ∨ nI c = 13 ∨ nI c = 32) := by decide +kernel
/-- one round of the model's loop at a byte that is no blank -/
theorem zt_cutTok {sw : Bool} {I : zI} {J : zJ} {T : Nat → Nat} {n a m : Nat} (h : zt_TM I T n) (hJ : zt_KY J) (ha : a < n) (hB : zt_B (T a) = false) (hm0 : I 148 10 = nI m) (hm : m ≤ 500) : ∃ I2 J2, s_X11_cut_7 148 (zE_R sw) (nI a, I, J) = some (.inl (nI (zt_e T n a), I2, J2)) ∧ zt_oM m I2 I J2 J (nI (zt_mk (zt_k T n a))) (nI a) (nI (zt_v T n a)) (lN (zt_mn T n a)) := by
  have hn := h.1
  have ta := (h.2.2 a ha).2
  have b1 := zt_b1 (T a) ta
  have nb : ¬ (nI (T a) = 9 ∨ nI (T a) = 10 ∨ nI (T a) = 13 ∨ nI (T a) = 32) := fun q => by rw [(zt_bl (T a) ta).mpr q] at hB; cases hB
  have n9 : ¬ nI (T a) = 9 := fun q => nb (Or.inl q)
  have n10 : ¬ nI (T a) = 10 := fun q => nb (Or.inr (Or.inl q))
  have n13 : ¬ nI (T a) = 13 := fun q => nb (Or.inr (Or.inr (Or.inl q)))
  have n32 : ¬ nI (T a) = 32 := fun q => nb (Or.inr (Or.inr (Or.inr q)))
  have eb := zt_e_b (T := T) ha
  have g0 : zw_gc 148 11 = true := zr_M1g.1
  have m5 : ¬ (500 : Int32) < nI m := nI_nlt (a := 500) (by omega) (by decide)
  unfold s_X11_cut_7
  dsimp only
  rw [g0, zw_g_t, if_neg (show ¬ (500 : Int32) < I 148 10 by rw [hm0]; exact m5), zt_byM (sw := sw) h (show a < 2 ^ 31 by omega), if_pos ha, Option.bind_some, if_pos (show nI a < I 148 4 by rw [h.2.1]; exact nI_lt ha (by omega)), if_neg n9, if_neg n10, if_neg n13, if_pos n32, b1.2.1, Option.bind_some]
  cases hL : zt_L (T a)
  · rw [if_pos (show zr_b false = 0 from rfl)]
    have emn : zt_mn T n a = 0 := by unfold zt_mn; rw [hL, if_neg (by decide)]
    by_cases h39 : T a = 39
    · have hD : zt_D (T a) = false := by rw [h39]; rfl
      rw [if_neg (show ¬ ¬ nI (T a) = (39 : Int32) from fun r => r (by rw [h39]; rfl)), zt_cellsM (sw := sw) h ha, Option.bind_some]
      have ee : zt_e T n a = zt_r zt_C T n (a + 1) := by
        unfold zt_e
        rw [hL, hD, if_neg (show ¬ (false : Bool) = true by decide), if_neg (show ¬ (false : Bool) = true by decide), if_pos h39]
      have ev : zt_v T n a = zt_e T n a - a - 1 := by
        unfold zt_v
        rw [hL, hD, if_neg (show ¬ (false : Bool) = true by decide), if_neg (show ¬ (false : Bool) = true by decide), if_pos h39]
      have ek : zt_k T n a = if 1 ≤ zt_e T n a - a - 1 ∧ zt_e T n a - a - 1 ≤ 12 then 4 else 1 := by
        unfold zt_k
        rw [hL, hD, if_neg (show ¬ (false : Bool) = true by decide), if_neg (show ¬ (false : Bool) = true by decide), if_pos h39]
      rw [ek, ev, emn, ← ee]
      obtain ⟨e, hee⟩ : ∃ e, e = zt_e T n a := ⟨_, rfl⟩
      rw [← hee] at eb ⊢
      have fin : ∀ k : Nat, ∃ I2 J2, j_X11_cut_242_7 148 (nI a) (nI (e - a - 1)) 148 (nI k) I (zE_R sw) J = some (.inl (nI e, I2, J2)) ∧ zt_oM m I2 I J2 J (nI k) (nI a) (nI (e - a - 1)) (lN 0) := by
        intro k
        obtain ⟨I2, J2, q1, q2⟩ := zt_token (sw := sw) (J := J) hm0 (by omega) (nI k) (nI a) (nI (e - a - 1)) 0
        refine ⟨I2, J2, ?_, q2⟩
        have e1 : nI a + (1 + nI (e - a - 1)) = nI e := by
          rw [show (1 : Int32) = nI 1 from rfl, nI_add, nI_add]
          congr 1
          omega
        unfold j_X11_cut_242_7 j_X11_cut_352_7
        simp only [zE_gM, zw_g_t, q1, Option.bind_some, zw_let_e, e1]
      by_cases c2 : e - a - 1 ≤ 12
      · rw [if_neg (show ¬ (12 : Int32) < nI (e - a - 1) from nI_nlt (a := 12) c2 (by decide))]
        by_cases c1 : 1 ≤ e - a - 1
        · rw [if_pos (show ¬ nI (e - a - 1) = (0 : Int32) from zr_ne (b := 0) (by omega) (by omega) (by decide)), if_pos ⟨c1, c2⟩]
          exact fin 17
        · rw [if_neg (show ¬ ¬ nI (e - a - 1) = (0 : Int32) from fun r => r (by rw [show e - a - 1 = 0 by omega]; rfl)), if_neg (fun r => c1 r.1)]
          exact fin 3
      · rw [if_pos (show (12 : Int32) < nI (e - a - 1) from nI_lt (a := 12) (by omega) (by omega)), if_neg (fun r => c2 r.2)]
        exact fin 3
    · rw [if_pos (show ¬ nI (T a) = (39 : Int32) from zr_ne (b := 39) h39 (by omega) (by decide)), b1.2.2.2.1, Option.bind_some]
      cases hD : zt_D (T a)
      · rw [if_pos (show zr_b false = 0 from rfl), nI_1, zt_byM (sw := sw) h (show a + 1 < 2 ^ 31 by omega), Option.bind_some]
        obtain ⟨I2, J2, q1, q2⟩ := zt_signM (sw := sw) (J := J) h ha hm0 (by omega)
        rw [q1, Option.bind_some]
        unfold j_X11_cut_352_7
        have ev : zt_v T n a = 0 := by
          unfold zt_v
          rw [hL, hD, if_neg (show ¬ (false : Bool) = true by decide), if_neg (show ¬ (false : Bool) = true by decide), if_neg h39]
        have ek : zt_k T n a = if a + 1 < n ∧ T (a + 1) = 61 ∧ (T a = 60 ∨ T a = 61 ∨ T a = 33) then (if T a = 60 then 15 else if T a = 61 then 16 else 17) else zt_sg (T a) := by
          unfold zt_k
          rw [hL, hD, if_neg (show ¬ (false : Bool) = true by decide), if_neg (show ¬ (false : Bool) = true by decide), if_neg h39]
        have ee : zt_e T n a = a + if a + 1 < n ∧ T (a + 1) = 61 ∧ (T a = 60 ∨ T a = 61 ∨ T a = 33) then 2 else 1 := by
          unfold zt_e
          rw [hL, hD, if_neg (show ¬ (false : Bool) = true by decide), if_neg (show ¬ (false : Bool) = true by decide), if_neg h39]
          split <;> rfl
        rw [ev, ek, emn, ee]
        refine ⟨I2, J2, ?_, q2⟩
        rw [zw_let_e, nI_add]
      · rw [if_neg (show ¬ zr_b true = 0 by decide), zt_digitsM (sw := sw) h ha hD, Option.bind_some]
        have ee : zt_e T n a = zt_r zt_D T n (a + 1) := by
          unfold zt_e
          rw [hL, hD, if_neg (show ¬ (false : Bool) = true by decide), if_pos rfl]
        have ev : zt_v T n a = zt_nm T a (min 4 (zt_e T n a - a)) := by
          unfold zt_v
          rw [hL, hD, if_neg (show ¬ (false : Bool) = true by decide), if_pos rfl]
        have ek : zt_k T n a = if zt_e T n a - a ≤ 4 then 3 else 1 := by
          unfold zt_k
          rw [hL, hD, if_neg (show ¬ (false : Bool) = true by decide), if_pos rfl]
        rw [ek, ev, emn, ← ee]
        obtain ⟨e, hee⟩ : ∃ e, e = zt_e T n a := ⟨_, rfl⟩
        rw [← hee] at eb ⊢
        have fin : ∀ k : Nat, ∃ I2 J2, j_X11_cut_322_7 148 (nI a) (nI (e - a)) (nI (zt_nm T a (min 4 (e - a)))) 148 (nI k) I (zE_R sw) J = some (.inl (nI e, I2, J2)) ∧ zt_oM m I2 I J2 J (nI k) (nI a) (nI (zt_nm T a (min 4 (e - a)))) (lN 0) := by
          intro k
          obtain ⟨I2, J2, q1, q2⟩ := zt_token (sw := sw) (J := J) hm0 (by omega) (nI k) (nI a) (nI (zt_nm T a (min 4 (e - a)))) 0
          refine ⟨I2, J2, ?_, q2⟩
          unfold j_X11_cut_322_7 j_X11_cut_352_7
          simp only [zE_gM, zw_g_t, q1, Option.bind_some, zw_let_e, nI_add, show a + (e - a) = e by omega]
        dsimp only
        by_cases c : e - a ≤ 4
        · rw [if_pos (show nI (e - a) ≤ (4 : Int32) from nI_le (b := 4) c (by decide)), if_pos c]
          exact fin 2
        · rw [if_neg (show ¬ nI (e - a) ≤ (4 : Int32) from nI_ge (a := 4) (by omega) (by omega)), if_neg c]
          exact fin 3
  · rw [if_neg (show ¬ zr_b true = 0 by decide), zt_lettersM (sw := sw) h ha hL, Option.bind_some]
    have ee : zt_e T n a = zt_r zt_L T n (a + 1) := by
      unfold zt_e
      rw [hL, if_pos rfl]
    have ew : zt_w T n a = zt_rl T a (zt_e T n a - a) := by
      unfold zt_w
      rw [hL, if_pos rfl]
    have ev : zt_v T n a = 0 := by
      unfold zt_v
      rw [hL, if_pos rfl]
    have ek : zt_k T n a = if zt_e T n a - a ≤ 8 then zt_wk (zt_rl T a (zt_e T n a - a)) else 1 := by
      unfold zt_k
      rw [hL, if_pos rfl, ew]
    have em : zt_mn T n a = zt_en 27 (zt_rl T a (min 8 (zt_e T n a - a))) := by
      unfold zt_mn
      rw [hL, if_pos rfl]
    have hin := zt_dgw (n := n) hL
    rw [← ee] at hin
    rw [ek, ev, em, ← ee]
    obtain ⟨e, hee⟩ : ∃ e, e = zt_e T n a := ⟨_, rfl⟩
    rw [← hee] at eb hin ⊢
    dsimp only
    have fin : ∀ k : Nat, ∃ I2 J2, j_X11_cut_179_7 148 (nI a) (nI (e - a)) (lN (zt_en 27 (zt_rl T a (min 8 (e - a))))) (nI k) I (zE_R sw) J = some (.inl (nI e, I2, J2)) ∧ zt_oM m I2 I J2 J (nI k) (nI a) (nI 0) (lN (zt_en 27 (zt_rl T a (min 8 (e - a))))) := by
      intro k
      obtain ⟨I2, J2, q1, q2⟩ := zt_token (sw := sw) (J := J) hm0 (by omega) (nI k) (nI a) 0 (lN (zt_en 27 (zt_rl T a (min 8 (e - a)))))
      refine ⟨I2, J2, ?_, q2⟩
      unfold j_X11_cut_179_7 j_X11_cut_352_7
      simp only [zE_gM, zw_g_t, q1, Option.bind_some, zw_let_e, nI_add, show a + (e - a) = e by omega]
    by_cases c : e - a ≤ 8
    · rw [if_pos (show nI (e - a) ≤ (8 : Int32) from nI_le (b := 8) c (by decide)), if_pos c]
      have m8 : min 8 (e - a) = e - a := by omega
      rw [m8] at fin ⊢
      have dg := zt_rl_dg hin
      have ll := zt_rl_len T a (e - a)
      unfold j_X11_cut_135_7
      by_cases c7 : e - a ≤ 7
      · rw [if_neg (show ¬ (7 : Int32) < nI (e - a) from nI_nlt (a := 7) c7 (by decide))]
        have ky := zt_keysM (sw := sw) (I := I) (v1 := nI a) (v3 := nI (e - a)) hJ dg (by omega) 1
        have ky : zw_it (s_X11_cut_146 148 (nI a) (nI (e - a)) (lN (zt_en 27 (zt_rl T a (e - a)))) I (zE_R sw) J) 1000000 (1, 0) = _ := ky
        rw [ky, Option.bind_some, zt_mfE]
        exact fin _
      · rw [if_pos (show (7 : Int32) < nI (e - a) from nI_lt (a := 7) (by omega) (by omega))]
        have k2 : zt_wk (zt_rl T a (e - a)) = 2 := zt_kf_none (fun j _ hj q => by
          have := zt_kwl j (by omega)
          rw [← q, ll] at this
          omega)
        rw [k2]
        exact fin 1
    · rw [if_neg (show ¬ nI (e - a) ≤ (8 : Int32) from nI_ge (a := 8) (by omega) (by omega)), if_neg c]
      unfold j_X11_cut_135_7
      rw [if_pos (show (7 : Int32) < nI (e - a) from nI_lt (a := 7) (by omega) (by omega))]
      exact fin 3
