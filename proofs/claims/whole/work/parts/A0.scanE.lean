/-! ===== the class: a token, all tokens ===== -/
theorem zt_LD : ∀ c, c < 256 → (zt_L c = true → zt_D c = false ∧ c ≠ 39) ∧ (zt_D c = true → c ≠ 39) := by decide +kernel
theorem zt_scanToken {sw : Bool} {I : zI} {J : zJ} {T : Nat → Nat} {n a i : Nat} (h : zt_TC I T n) (hi : i < 501) (ha : a < n) (hJ : J 6 i = 0) : ∃ I2 J2, f_X8_scanToken 2 (nI i) (nI a) I (zE_R sw) J = some (nI (zt_e T n a), I2, J2) ∧ zt_o i I2 I J2 J (zt_k T n a) (lN (zt_cv T n a)) := by
  have hn := h.1
  have ta := (h.2.2 a ha).2
  have b1 := zt_b1 (T a) ta
  unfold f_X8_scanToken
  simp only [zE_gC, zE_rC sw, zw_g_t, zw_let_e, zt_byC (sw := sw) h (show a < 2 ^ 31 by omega), if_pos ha, Option.bind_some, nI_1, b1.1, b1.2.2.1]
  cases hL : zt_L (T a)
  · rw [if_pos (show zr_b false = 0 from rfl)]
    cases hD : zt_D (T a)
    · rw [if_pos (show zr_b false = 0 from rfl)]
      by_cases h39 : T a = 39
      · rw [if_neg (show ¬ ¬ nI (T a) = (39 : Int32) from fun r => r (by rw [h39]; rfl))]
        have go := zt_runL (step := s_X8_scanToken_107 2 (nI i) (nI a) I (zE_R sw) J) (P := zt_C) (T := T) (n := n) hn (fun j hj hp => by
          have bj := (h.2.2 j hj).2
          have co := zt_co1 (T j) bj
          unfold s_X8_scanToken_107
          simp only [zE_gC, zw_g_t, h.2.1, if_neg (nI_ge hj (by omega)), zt_byC (sw := sw) h (show j < 2 ^ 31 by omega), if_pos hj, Option.bind_some, zt_b2 (T j) bj, zw_let_e, nI_1]
          rw [if_neg (fun r => by rw [co.1] at r; rw [r] at hp; cases hp)]) (fun j hj hp => by
          have bj := (h.2.2 j hj).2
          have co := zt_co1 (T j) bj
          unfold s_X8_scanToken_107
          simp only [zE_gC, zw_g_t, h.2.1, if_neg (nI_ge hj (by omega)), zt_byC (sw := sw) h (show j < 2 ^ 31 by omega), if_pos hj, Option.bind_some, zt_b2 (T j) bj, zw_let_e, nI_1]
          rw [if_pos (co.1.mpr hp)]) (by
          unfold s_X8_scanToken_107
          simp only [zE_gC, zw_g_t, h.2.1, if_pos (nI_le (Nat.le_refl n) (by omega))]) (a := a + 1) (by omega)
        rw [go, Option.bind_some]
        have ee : zt_e T n a = zt_r zt_C T n (a + 1) := by
          unfold zt_e
          rw [hL, hD, if_neg (by decide), if_neg (by decide), if_pos h39]
        have ev : zt_cv T n a = zt_e T n a - a - 1 := by
          unfold zt_cv zt_v
          rw [hL, hD, if_neg (by decide), if_neg (by decide), if_neg (by decide), if_pos h39]
        have ek : zt_k T n a = if 1 ≤ zt_e T n a - a - 1 ∧ zt_e T n a - a - 1 ≤ 12 then 4 else 1 := by
          unfold zt_k
          rw [hL, hD, if_neg (by decide), if_neg (by decide), if_pos h39]
        rw [ek, ev, ← ee]
        have eb := zt_e_b (T := T) ha
        obtain ⟨e, hee⟩ : ∃ e, e = zt_e T n a := ⟨_, rfl⟩
        rw [← hee] at eb ⊢
        have s1 : nI e - nI a - 1 = nI (e - a - 1) := by
          rw [pk_sub (by omega), show (1 : Int32) = nI 1 from rfl, pk_sub (by omega)]
        have j182 : ∀ (k : Nat) (J' : zJ), j_X8_scanToken_182 (nI e) 4 (nI i) (nI k) I (zE_R sw) J' = some (nI e, zw_u I 4 i (nI k), J') := by
          intro k J'
          unfold j_X8_scanToken_182
          simp only [zE_gC, zE_sC, zw_g_t, zw_let_e, zE_in hi (by decide), zE_cl (show i < 2 ^ 31 by omega)]
        have j181 : ∀ (J' : zJ), j_X8_scanToken_181 (nI e) 4 (nI i) I (zE_R sw) J' = some (nI e, zw_u I 4 i (nI 1), J') := fun J' => j182 1 J'
        unfold j_X8_scanToken_135
        simp only [zE_gC, zE_rC sw, zE_sC, zw_g_t, zw_let_e, zE_in hi (by decide), zE_cl (show i < 2 ^ 31 by omega), s1, nI_l (show e - a - 1 < 2 ^ 31 by omega), zE_u1, j181]
        have j182' := j182 4
        rw [show nI 4 = (4 : Int32) from rfl] at j182'
        have fin : ∀ k : Nat, zt_o i (zw_u I 4 i (nI k)) I (zw_u J 6 i (lN (e - a - 1))) J k (lN (e - a - 1)) := fun k => ⟨fun x hx => zw_u_off _ _ _ hx, fun y hy => zE_u2 _ _ (by omega), zE_u1 _ _ _ _, fun x hx => zw_u_off _ _ _ hx, fun y hy => zE_u2 _ _ (by omega), zE_u1 _ _ _ _⟩
        by_cases c1 : 1 ≤ e - a - 1
        · rw [if_neg (show ¬ lg_cmp (lN (e - a - 1)) 1 < 0 from by rw [lg_cmp_lt, show (1 : Int64) = lN 1 from rfl, lN_lt (by omega) (by decide)]; omega)]
          by_cases c2 : e - a - 1 ≤ 12
          · rw [if_neg (show ¬ 0 < lg_cmp (lN (e - a - 1)) 12 from by rw [lg_cmp_gt, show (12 : Int64) = lN 12 from rfl, lN_lt (by decide) (by omega)]; omega), if_pos ⟨c1, c2⟩, j182']
            exact ⟨_, _, rfl, fin 4⟩
          · rw [if_pos (show 0 < lg_cmp (lN (e - a - 1)) 12 from by rw [lg_cmp_gt, show (12 : Int64) = lN 12 from rfl, lN_lt (by decide) (by omega)]; omega), if_neg (fun r => c2 r.2)]
            exact ⟨_, _, rfl, fin 1⟩
        · rw [if_pos (show lg_cmp (lN (e - a - 1)) 1 < 0 from by rw [lg_cmp_lt, show (1 : Int64) = lN 1 from rfl, lN_lt (by omega) (by decide)]; omega), if_neg (fun r => c1 r.1)]
          exact ⟨_, _, rfl, fin 1⟩
      · rw [if_pos (show ¬ nI (T a) = (39 : Int32) from zr_ne (b := 39) h39 (by omega) (by decide))]
        obtain ⟨I2, q1, q2, q3, q4⟩ := zt_keepSign (sw := sw) h hi ha
        rw [q1, Option.bind_some]
        refine ⟨I2, J, ?_, q2, q3, ?_, fun _ _ => rfl, fun _ _ => rfl, ?_⟩
        · unfold zt_e
          rw [hL, hD, if_neg (show ¬ (false : Bool) = true by decide), if_neg (show ¬ (false : Bool) = true by decide), if_neg h39]
        · rw [q4]
          unfold zt_k
          rw [hL, hD, if_neg (show ¬ (false : Bool) = true by decide), if_neg (show ¬ (false : Bool) = true by decide), if_neg h39]
        · rw [hJ]
          unfold zt_cv zt_v
          rw [hL, hD, if_neg (show ¬ (false : Bool) = true by decide), if_neg (show ¬ (false : Bool) = true by decide), if_neg (show ¬ (false : Bool) = true by decide), if_neg h39]
          rfl
    · rw [if_neg (show ¬ zr_b true = 0 by decide)]
      have go := zt_runL (step := s_X8_scanToken_63 2 (nI i) (nI a) I (zE_R sw) J) (P := zt_D) (T := T) (n := n) hn (fun j hj hp => by
        unfold s_X8_scanToken_63
        simp only [zE_gC, zw_g_t, h.2.1, if_neg (nI_ge hj (by omega)), zt_byC (sw := sw) h (show j < 2 ^ 31 by omega), if_pos hj, Option.bind_some, (zt_b1 (T j) (h.2.2 j hj).2).2.2.1, hp, zw_let_e, nI_1]
        rfl) (fun j hj hp => by
        unfold s_X8_scanToken_63
        simp only [zE_gC, zw_g_t, h.2.1, if_neg (nI_ge hj (by omega)), zt_byC (sw := sw) h (show j < 2 ^ 31 by omega), if_pos hj, Option.bind_some, (zt_b1 (T j) (h.2.2 j hj).2).2.2.1, hp, zw_let_e, nI_1]
        rfl) (by
        unfold s_X8_scanToken_63
        simp only [zE_gC, zw_g_t, h.2.1, if_pos (nI_le (Nat.le_refl n) (by omega))]) (a := a + 1) (by omega)
      rw [go, Option.bind_some]
      have ee : zt_e T n a = zt_r zt_D T n (a + 1) := by
        unfold zt_e
        rw [hL, hD, if_neg (show ¬ (false : Bool) = true by decide), if_pos rfl]
      have ev : zt_cv T n a = zt_nm T a (min 4 (zt_e T n a - a)) := by
        unfold zt_cv zt_v
        rw [hL, hD, if_neg (show ¬ (false : Bool) = true by decide), if_neg (show ¬ (false : Bool) = true by decide), if_pos rfl]
      have ek : zt_k T n a = if zt_e T n a - a ≤ 4 then 3 else 1 := by
        unfold zt_k
        rw [hL, hD, if_neg (show ¬ (false : Bool) = true by decide), if_pos rfl]
      have eb := zt_e_b (T := T) ha
      rw [ek, ev, ← ee]
      have hin : ∀ j, a ≤ j → j < a + (zt_e T n a - a) → zt_D (T j) = true := by
        intro j h1 h2
        by_cases e : j = a
        · rw [e]; exact hD
        · exact zt_r_in (a := a + 1) (by omega) (by rw [← ee]; omega)
      obtain ⟨e, hee⟩ : ∃ e, e = zt_e T n a := ⟨_, rfl⟩
      rw [← hee] at eb hin ⊢
      obtain ⟨I2, J2, q1, q2⟩ := zt_keepInt (sw := sw) (J := J) (len := e - a) h hi (by omega) hin hJ
      rw [show a + (e - a) = e by omega] at q1
      unfold j_X8_scanToken_90
      simp only [zE_gC, zw_g_t, q1, Option.bind_some]
      exact ⟨I2, J2, rfl, q2⟩
  · rw [if_neg (show ¬ zr_b true = 0 by decide)]
    have go := zt_runL (step := s_X8_scanToken_18 2 (nI i) (nI a) I (zE_R sw) J) (P := zt_L) (T := T) (n := n) hn (fun j hj hp => by
      unfold s_X8_scanToken_18
      simp only [zE_gC, zw_g_t, h.2.1, if_neg (nI_ge hj (by omega)), zt_byC (sw := sw) h (show j < 2 ^ 31 by omega), if_pos hj, Option.bind_some, (zt_b1 (T j) (h.2.2 j hj).2).1, hp, zw_let_e, nI_1]
      rfl) (fun j hj hp => by
      unfold s_X8_scanToken_18
      simp only [zE_gC, zw_g_t, h.2.1, if_neg (nI_ge hj (by omega)), zt_byC (sw := sw) h (show j < 2 ^ 31 by omega), if_pos hj, Option.bind_some, (zt_b1 (T j) (h.2.2 j hj).2).1, hp, zw_let_e, nI_1]
      rfl) (by
      unfold s_X8_scanToken_18
      simp only [zE_gC, zw_g_t, h.2.1, if_pos (nI_le (Nat.le_refl n) (by omega))]) (a := a + 1) (by omega)
    rw [go, Option.bind_some]
    have ee : zt_e T n a = zt_r zt_L T n (a + 1) := by
      unfold zt_e
      rw [hL, if_pos rfl]
    have ew : zt_w T n a = zt_rl T a (zt_e T n a - a) := by
      unfold zt_w
      rw [hL, if_pos rfl]
    have ev : zt_cv T n a = if zt_e T n a - a ≤ 8 then zt_en 32 (zt_rl T a (zt_e T n a - a)) else 0 := by
      unfold zt_cv
      rw [hL, if_pos rfl, ew]
    have ek : zt_k T n a = if zt_e T n a - a ≤ 8 then zt_wk (zt_rl T a (zt_e T n a - a)) else 1 := by
      unfold zt_k
      rw [hL, if_pos rfl, ew]
    have eb := zt_e_b (T := T) ha
    have hin := zt_dgw (n := n) hL
    rw [← ee] at hin
    rw [ek, ev, ← ee]
    obtain ⟨e, hee⟩ : ∃ e, e = zt_e T n a := ⟨_, rfl⟩
    rw [← hee] at eb hin ⊢
    obtain ⟨I2, J2, q1, q2⟩ := zt_keepWord (sw := sw) (J := J) (len := e - a) h hi (by omega) (by omega) hin hJ
    rw [show a + (e - a) = e by omega] at q1
    unfold j_X8_scanToken_45
    simp only [zE_gC, zw_g_t, q1, Option.bind_some]
    exact ⟨I2, J2, rfl, q2⟩
/-- what the class knows of the j-th token -/
def zt_C1 (T : Nat → Nat) (n : Nat) (I : zI) (J : zJ) (j : Nat) : Prop := I 4 j = nI (zt_K T n j) ∧ I 5 j = nI (zt_a T n j) ∧ J 6 j = lN (if zt_a T n j < n then zt_cv T n (zt_a T n j) else 0)
def zt_go (T : Nat → Nat) (n i : Nat) : Prop := ∀ j, j < i → zt_K T n j ≠ 0 ∧ zt_K T n j ≠ 1
theorem zt_scan {sw : Bool} {I : zI} {J : zJ} {T : Nat → Nat} {n : Nat} (h : zt_TC I T n) : ∃ I2 J2, f_X8_scan 2 I (zE_R sw) J = some (I2, J2) ∧ (∀ x, x ≠ 4 → x ≠ 5 → I2 x = I x) ∧ (∀ x, x ≠ 6 → J2 x = J x) ∧ ∀ j, j ≤ 500 → zt_go T n j → zt_C1 T n I2 J2 j := by
  have hn := h.1
  -- where the next token is looked for
  obtain ⟨P0, hP0⟩ : ∃ P0 : Nat → Nat, ∀ i, P0 i = (if i = 0 then 0 else zt_e T n (zt_a T n (i - 1))) := ⟨_, fun _ => rfl⟩
  have go := zE_for (step := s_X8_scan_6 2 (zE_R sw)) (fun i z => ∃ (p : Nat) (m : Int32) (I' : zI) (J' : zJ), z = (nI p, m, nI i, I', J') ∧ (∀ x, x ≠ 4 → x ≠ 5 → I' x = I x) ∧ (∀ x, x ≠ 6 → J' x = J x) ∧ (∀ j, j < i → zt_go T n j → zt_C1 T n I' J' j) ∧ ((m = 0 ∧ ¬ zt_go T n i) ∨ (m = 1 ∧ zt_go T n i ∧ p ≤ n ∧ zt_r zt_B T n p = zt_a T n i))) (fun r => (∀ x, x ≠ 4 → x ≠ 5 → r.1 x = I x) ∧ (∀ x, x ≠ 6 → r.2 x = J x) ∧ ∀ j, j ≤ 500 → zt_go T n j → zt_C1 T n r.1 r.2 j) 501 ?_ ?_ 0 (0, 1, 0, I, J) (by decide) (by decide) ⟨0, 1, I, J, rfl, fun _ _ _ => rfl, fun _ _ => rfl, fun j hj => by omega, Or.inr ⟨rfl, fun j hj => by omega, by omega, rfl⟩⟩
  · obtain ⟨r, q1, q2⟩ := go
    unfold f_X8_scan
    rw [q1, Option.bind_some]
    exact ⟨r.1, r.2, rfl, q2⟩
  · rintro i z hi ⟨p, m, I', J', rfl, f1, f2, f3, f4⟩
    rcases f4 with ⟨rfl, f4⟩ | ⟨rfl, f4, f5, f6⟩
    · refine Or.inr ⟨(I', J'), ?_, f1, f2, fun j hj hg => ?_⟩
      · unfold s_X8_scan_6
        dsimp only
        rw [if_pos rfl]
      · by_cases c : j < i
        · exact f3 j c hg
        · exact absurd (fun k hk => hg k (by omega)) f4
    · have h' : zt_TC I' T n := zt_TC_tr h (f1 2 (by decide) (by decide)) (f1 3 (by decide) (by decide))
      obtain ⟨a, ea⟩ : ∃ a, a = zt_a T n i := ⟨_, rfl⟩
      have pb := zt_blanksC (sw := sw) h' f5
      rw [f6, ← ea] at pb
      have ale : a ≤ n := by rw [ea]; exact zt_a_le T n i
      obtain ⟨I2, e2⟩ : ∃ I2, I2 = zw_u (zw_u I' 5 i (nI a)) 4 i 0 := ⟨_, rfl⟩
      obtain ⟨J2, e3⟩ : ∃ J2, J2 = zw_u J' 6 i 0 := ⟨_, rfl⟩
      have g2 : ∀ x, x ≠ 4 → x ≠ 5 → I2 x = I' x := fun x x1 x2 => by rw [e2, zw_u_off _ _ _ x1, zw_u_off _ _ _ x2]
      have h2 : zt_TC I2 T n := zt_TC_tr h' (g2 2 (by decide) (by decide)) (g2 3 (by decide) (by decide))
      have l2 : I2 2 1 = nI n := h2.2.1
      -- what is left behind the token
      have rest : ∀ (I3 : zI) (J3 : zJ) (e : Nat), zt_o i I3 I2 J3 J2 (zt_K T n i) (lN (if a < n then zt_cv T n a else 0)) → (a < n → e = zt_e T n a) → (∃ t, j_X8_scan_59_6 2 (nI e) (nI i) I3 (zE_R sw) J3 = some (.inl t) ∧ ∃ (p : Nat) (m : Int32) (I' : zI) (J' : zJ), t = (nI p, m, nI (i + 1), I', J') ∧ (∀ x, x ≠ 4 → x ≠ 5 → I' x = I x) ∧ (∀ x, x ≠ 6 → J' x = J x) ∧ (∀ j, j < i + 1 → zt_go T n j → zt_C1 T n I' J' j) ∧ ((m = 0 ∧ ¬ zt_go T n (i + 1)) ∨ (m = 1 ∧ zt_go T n (i + 1) ∧ p ≤ n ∧ zt_r zt_B T n p = zt_a T n (i + 1)))) := by
        intro I3 J3 e ho he
        obtain ⟨o1, o2, o3, o4, o5, o6⟩ := ho
        have w1 : ∀ x, x ≠ 4 → x ≠ 5 → I3 x = I x := fun x x1 x2 => (o1 x x1).trans ((g2 x x1 x2).trans (f1 x x1 x2))
        have w2 : ∀ x, x ≠ 6 → J3 x = J x := fun x x1 => (o4 x x1).trans (by rw [e3, zw_u_off _ _ _ x1, f2 x x1])
        have w3 : ∀ j, j < i + 1 → zt_go T n j → zt_C1 T n I3 J3 j := by
          intro j hj hg
          by_cases c : j = i
          · subst c
            refine ⟨o3, ?_, by rw [o6, ea]⟩
            rw [o1 5 (by decide), e2, zw_u_off _ _ _ (by decide), zE_u1, ea]
          · obtain ⟨k1, k2, k3⟩ := f3 j (by omega) hg
            refine ⟨?_, ?_, ?_⟩
            · rw [o2 j c, e2, zE_u2 _ _ (by omega), zw_u_off _ _ _ (by decide)]; exact k1
            · rw [o1 5 (by decide), e2, zw_u_off _ _ _ (by decide), zE_u2 _ _ (by omega)]; exact k2
            · rw [o5 j c, e3, zE_u2 _ _ (by omega)]; exact k3
        have step : zt_K T n i ≠ 0 → zt_K T n i ≠ 1 → zt_go T n (i + 1) := fun k1 k2 j hj => by
          by_cases c : j = i
          · subst c; exact ⟨k1, k2⟩
          · exact f4 j (by omega)
        unfold j_X8_scan_59_6 j_X8_scan_82_6 j_X8_scan_83_6
        simp only [zE_gC, zE_rC sw, zE_sC, zw_g_t, zw_let_e, zE_in hi (by decide), zE_cl (show i < 2 ^ 31 by omega), o3, nI_1]
        have kb : zt_K T n i < 2 ^ 31 := by
          have := zt_K_b (T := T) (n := n) i (fun hlt => (h.2.2 _ hlt).2)
          omega
        by_cases k0 : zt_K T n i = 0
        · rw [if_pos (show nI (zt_K T n i) = (0 : Int32) by rw [k0]; rfl)]
          exact ⟨_, rfl, e, 0, I3, J3, rfl, w1, w2, w3, Or.inl ⟨rfl, fun hg => (hg i (by omega)).1 k0⟩⟩
        · rw [if_neg (show ¬ nI (zt_K T n i) = (0 : Int32) from zr_ne (b := 0) k0 kb (by decide))]
          by_cases k1 : zt_K T n i = 1
          · rw [if_pos (show nI (zt_K T n i) = (1 : Int32) by rw [k1]; rfl)]
            exact ⟨_, rfl, e, 0, I3, J3, rfl, w1, w2, w3, Or.inl ⟨rfl, fun hg => (hg i (by omega)).2 k1⟩⟩
          · rw [if_neg (show ¬ nI (zt_K T n i) = (1 : Int32) from zr_ne (b := 1) k1 kb (by decide))]
            have alt : a < n := by
              rcases Nat.lt_or_ge a n with c | c
              · exact c
              · exfalso
                apply k0
                unfold zt_K
                rw [← ea, if_neg (by omega)]
            have eb := zt_e_b (T := T) alt
            refine ⟨_, rfl, e, 1, I3, J3, rfl, w1, w2, w3, Or.inr ⟨rfl, step k0 k1, by rw [he alt]; exact eb.2, ?_⟩⟩
            show zt_r zt_B T n e = (if zt_a T n i < n then zt_r zt_B T n (zt_e T n (zt_a T n i)) else zt_a T n i)
            rw [← ea, if_pos alt, he alt]
      refine Or.inl ?_
      have i500 : ¬ (500 : Int32) < nI i := nI_nlt (a := 500) (by omega) (by decide)
      unfold s_X8_scan_6
      simp only [if_neg zE_10, if_neg i500, zE_gC, zE_rC sw, zE_sC, zw_g_t, pb, Option.bind_some, zE_in hi (by decide), zE_cl (show i < 2 ^ 31 by omega), zw_let_e, ← e2, ← e3, l2]
      by_cases c : a < n
      · rw [if_neg (nI_ge c (by omega))]
        have z6 : J2 6 i = 0 := by rw [e3, zE_u1]
        obtain ⟨I3, J3, t1, t2⟩ := zt_scanToken (sw := sw) (J := J2) h2 hi c z6
        rw [t1, Option.bind_some]
        refine rest I3 J3 _ ?_ (fun _ => rfl)
        rw [if_pos c]
        have eK : zt_K T n i = zt_k T n a := by unfold zt_K; rw [← ea, if_pos c]
        rw [eK]
        exact t2
      · rw [if_pos (nI_le (show n ≤ a by omega) (by omega))]
        refine rest I2 J2 _ ?_ (fun hlt => absurd hlt c)
        have eK : zt_K T n i = 0 := by unfold zt_K; rw [← ea, if_neg c]
        rw [if_neg c, eK]
        exact ⟨fun _ _ => rfl, fun _ _ => rfl, by rw [e2, zE_u1]; rfl, fun _ _ => rfl, fun _ _ => rfl, by rw [e3, zE_u1]; rfl⟩
  · rintro z ⟨p, m, I', J', rfl, f1, f2, f3, f4⟩
    refine ⟨(I', J'), ?_, f1, f2, fun j hj hg => f3 j (by omega) hg⟩
    unfold s_X8_scan_6
    dsimp only
    by_cases c : m = 0
    · rw [if_pos c]
    · rw [if_neg c, if_pos (show (500 : Int32) < nI 501 by decide)]
