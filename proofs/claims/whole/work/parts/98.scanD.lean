/-! ===== the class: one token, all tokens ===== -/
/-- what the class writes as a token's value -/
def zt_cv (T : Nat → Nat) (n a : Nat) : Nat := if zt_L (T a) = true then (if zt_e T n a - a ≤ 8 then zt_en 32 (zt_w T n a) else 0) else zt_v T n a
theorem zt_dgw {T : Nat → Nat} {n a : Nat} (h : zt_L (T a) = true) : ∀ j, a ≤ j → j < a + (zt_r zt_L T n (a + 1) - a) → zt_L (T j) = true := by
  intro j h1 h2
  have := zt_r_ge zt_L T n (a + 1)
  by_cases e : j = a
  · rw [e]; exact h
  · exact zt_r_in (a := a + 1) (by omega) (show j < zt_r zt_L T n (a + 1) by omega)
theorem zt_keepWord {sw : Bool} {I : zI} {J : zJ} {T : Nat → Nat} {n a i len : Nat} (h : zt_TC I T n) (hi : i < 501) (hlen : 1 ≤ len) (ha : a + len ≤ n) (hT : ∀ j, a ≤ j → j < a + len → zt_L (T j) = true) (hJ : J 6 i = 0) : ∃ I2 J2, f_X8_keepWord 2 (nI i) (nI a) (nI (a + len)) I (zE_R sw) J = some (I2, J2) ∧ zt_o i I2 I J2 J (if len ≤ 8 then zt_wk (zt_rl T a len) else 1) (lN (if len ≤ 8 then zt_en 32 (zt_rl T a len) else 0)) := by
  have hn := h.1
  have e1 : nI (a + len) - nI a = nI len := by rw [pk_sub (by omega)]; congr 1; omega
  unfold f_X8_keepWord
  rw [e1]
  by_cases h8 : len ≤ 8
  · rw [if_pos (show nI len ≤ (8 : Int32) from nI_le (b := 8) h8 (by decide)), if_pos h8, if_pos h8]
    obtain ⟨k, ek⟩ : ∃ k, k = zt_wk (zt_rl T a len) := ⟨_, rfl⟩
    have wk := zt_wordC (sw := sw) h h8 ha hT
    rw [← ek] at wk ⊢
    obtain ⟨I2, e2⟩ : ∃ I2, I2 = zw_u I 4 i (nI k) := ⟨_, rfl⟩
    have h' : zt_TC I2 T n := zt_TC_tr h (by rw [e2, zw_u_off _ _ _ (by decide)]) (by rw [e2, zw_u_off _ _ _ (by decide)])
    have go := zE_for (step := s_X8_keepWord_31 2 (nI i) (nI (a + len)) I2 (zE_R sw)) (fun m z => ∃ J', z = (nI (a + m), J') ∧ (∀ x, x ≠ 6 → J' x = J x) ∧ (∀ y, y ≠ i → J' 6 y = J 6 y) ∧ J' 6 i = lN (zt_en 32 (zt_rl T a m))) (fun J' => (∀ x, x ≠ 6 → J' x = J x) ∧ (∀ y, y ≠ i → J' 6 y = J 6 y) ∧ J' 6 i = lN (zt_en 32 (zt_rl T a len))) len ?_ ?_ 0 (nI a, J) (by omega) (by omega) ⟨J, rfl, fun _ _ => rfl, fun _ _ => rfl, hJ⟩
    · obtain ⟨J2, q1, q2, q3, q4⟩ := go
      refine ⟨I2, J2, ?_, fun x hx => by rw [e2, zw_u_off _ _ _ hx], fun y hy => by rw [e2, zE_u2 _ _ (by omega)], by rw [e2, zE_u1], q2, q3, q4⟩
      simp only [zE_gC, zE_rC sw, zE_sC, zw_g_t, wk, Option.bind_some, zE_in hi (by decide), zE_cl (show i < 2 ^ 31 by omega), zw_let_e, ← e2, q1]
    · rintro m z hm ⟨J', rfl, f1, f2, f3⟩
      have hb := h'.2.2 (a + m) (by omega)
      have hL := hT (a + m) (by omega) (by omega)
      unfold zt_L at hL
      have hL := of_decide_eq_true hL
      have e3 : nI (T (a + m)) - 97 + 1 = nI (T (a + m) - 96) := by
        rw [show (97 : Int32) = nI 97 from rfl, pk_sub hL.1, nI_1]
        congr 1
        omega
      have e4 : lN (zt_en 32 (zt_rl T a m)) * 32 + lN (T (a + m) - 96) = lN (zt_en 32 (zt_rl T a (m + 1))) := by
        rw [show (32 : Int64) = lN 32 from rfl, lN_mul, lN_add]
        rfl
      unfold s_X8_keepWord_31
      simp only [if_neg (nI_ge (show a + m < a + len by omega) (by omega)), zE_gC, zE_rC sw, zE_sC, zw_g_t, zE_in hi (by decide), zE_cl (show i < 2 ^ 31 by omega), zt_byC (sw := sw) h' (show a + m < 2 ^ 31 by omega), if_pos (show a + m < n by omega), Option.bind_some, zw_let_e, nI_1, f3, e3, nI_l (show T (a + m) - 96 < 2 ^ 31 by omega), e4]
      refine Or.inl ⟨_, rfl, _, rfl, fun x hx => by rw [zw_u_off _ _ _ hx, f1 x hx], fun y hy => by rw [zE_u2 _ _ (by omega), f2 y hy], by rw [zE_u1]⟩
    · rintro z ⟨J', rfl, f1, f2, f3⟩
      refine ⟨J', ?_, f1, f2, f3⟩
      unfold s_X8_keepWord_31
      dsimp only
      rw [if_pos (nI_le (Nat.le_refl (a + len)) (by omega))]
  · rw [if_neg (show ¬ nI len ≤ (8 : Int32) from nI_ge (a := 8) (by omega) (by omega)), if_neg h8, if_neg h8]
    refine ⟨zw_u I 4 i 1, J, ?_, fun x hx => zw_u_off _ _ _ hx, fun y hy => zE_u2 _ _ (by omega), zE_u1 _ _ _ _, fun _ _ => rfl, fun _ _ => rfl, hJ⟩
    simp only [zE_gC, zE_rC sw, zE_sC, zw_g_t, zE_in hi (by decide), zE_cl (show i < 2 ^ 31 by omega), zw_let_e]
theorem zt_keepInt {sw : Bool} {I : zI} {J : zJ} {T : Nat → Nat} {n a i len : Nat} (h : zt_TC I T n) (hi : i < 501) (ha : a + len ≤ n) (hT : ∀ j, a ≤ j → j < a + len → zt_D (T j) = true) (hJ : J 6 i = 0) : ∃ I2 J2, f_X8_keepInt 2 (nI i) (nI a) (nI (a + len)) I (zE_R sw) J = some (I2, J2) ∧ zt_o i I2 I J2 J (if len ≤ 4 then 3 else 1) (lN (zt_nm T a (min 4 len))) := by
  have hn := h.1
  have e1 : nI (a + len) - nI a = nI len := by rw [pk_sub (by omega)]; congr 1; omega
  have main : ∀ k : Nat, ∃ I2 J2, j_X8_keepInt_17 2 (nI i) (nI a) (nI (a + len)) 4 (nI i) (nI k) I (zE_R sw) J = some (I2, J2) ∧ zt_o i I2 I J2 J k (lN (zt_nm T a (min 4 len))) := by
    intro k
    obtain ⟨I2, e2⟩ : ∃ I2, I2 = zw_u I 4 i (nI k) := ⟨_, rfl⟩
    have h' : zt_TC I2 T n := zt_TC_tr h (by rw [e2, zw_u_off _ _ _ (by decide)]) (by rw [e2, zw_u_off _ _ _ (by decide)])
    have go := zE_for (step := s_X8_keepInt_21 2 (nI i) (nI a) (nI (a + len)) I2 (zE_R sw)) (fun m z => ∃ J', z = (nI (a + m), J') ∧ (∀ x, x ≠ 6 → J' x = J x) ∧ (∀ y, y ≠ i → J' 6 y = J 6 y) ∧ J' 6 i = lN (zt_nm T a m)) (fun J' => (∀ x, x ≠ 6 → J' x = J x) ∧ (∀ y, y ≠ i → J' 6 y = J 6 y) ∧ J' 6 i = lN (zt_nm T a (min 4 len))) (min 4 len) ?_ ?_ 0 (nI a, J) (by omega) (by omega) ⟨J, rfl, fun _ _ => rfl, fun _ _ => rfl, hJ⟩
    · obtain ⟨J2, q1, q2, q3, q4⟩ := go
      refine ⟨I2, J2, ?_, fun x hx => by rw [e2, zw_u_off _ _ _ hx], fun y hy => by rw [e2, zE_u2 _ _ (by omega)], by rw [e2, zE_u1], q2, q3, q4⟩
      unfold j_X8_keepInt_17
      simp only [zE_gC, zE_sC, zw_g_t, zE_in hi (by decide), zE_cl (show i < 2 ^ 31 by omega), zw_let_e, ← e2, q1, Option.bind_some]
    · rintro m z hm ⟨J', rfl, f1, f2, f3⟩
      have hb := h'.2.2 (a + m) (by omega)
      have hL := hT (a + m) (by omega) (by omega)
      unfold zt_D at hL
      have hL := of_decide_eq_true hL
      have e3 : nI (T (a + m)) - 48 = nI (T (a + m) - 48) := pk_sub (b := 48) hL.1
      have e4 : lN (zt_nm T a m) * 10 + lN (T (a + m) - 48) = lN (zt_nm T a (m + 1)) := by
        rw [show (10 : Int64) = lN 10 from rfl, lN_mul, lN_add]
        rfl
      have e5 : nI a + 4 = nI (a + 4) := nI_add a 4
      unfold s_X8_keepInt_21
      simp only [if_neg (nI_ge (show a + m < a + len by omega) (by omega)), e5, if_neg (nI_ge (show a + m < a + 4 by omega) (by omega)), zE_gC, zE_rC sw, zE_sC, zw_g_t, zE_in hi (by decide), zE_cl (show i < 2 ^ 31 by omega), zt_byC (sw := sw) h' (show a + m < 2 ^ 31 by omega), if_pos (show a + m < n by omega), Option.bind_some, zw_let_e, nI_1, f3, e3, nI_l (show T (a + m) - 48 < 2 ^ 31 by omega), e4]
      refine Or.inl ⟨_, rfl, _, rfl, fun x hx => by rw [zw_u_off _ _ _ hx, f1 x hx], fun y hy => by rw [zE_u2 _ _ (by omega), f2 y hy], by rw [zE_u1]⟩
    · rintro z ⟨J', rfl, f1, f2, f3⟩
      refine ⟨J', ?_, f1, f2, f3⟩
      have e5 : nI a + 4 = nI (a + 4) := nI_add a 4
      unfold s_X8_keepInt_21
      dsimp only
      rw [e5]
      by_cases c : len ≤ 4
      · rw [if_pos (nI_le (show a + len ≤ a + min 4 len by omega) (by omega))]
      · rw [if_neg (nI_ge (show a + min 4 len < a + len by omega) (by omega)), if_pos (nI_le (show a + 4 ≤ a + min 4 len by omega) (by omega))]
  unfold f_X8_keepInt
  rw [e1]
  simp only [zE_gC, zE_rC sw, zw_g_t]
  by_cases c : len ≤ 4
  · rw [if_neg (show ¬ (4 : Int32) < nI len from nI_nlt (a := 4) c (by decide)), if_pos c]
    exact main 3
  · rw [if_pos (show (4 : Int32) < nI len from nI_lt (a := 4) (by omega) (by omega)), if_neg c]
    exact main 1
theorem zt_kf_b (w : List Nat) : ∀ f s, zt_kf w f s ≤ 18 + (s + f)
  | 0, s => by show 2 ≤ _; omega
  | f + 1, s => by
    unfold zt_kf
    have := zt_kf_b w f (s + 1)
    split <;> omega
theorem zt_sgB : ∀ c, c < 256 → (zt_sg c = 1 ∨ 5 ≤ zt_sg c) ∧ zt_sg c ≤ 14 := by decide +kernel
theorem zt_K_b {T : Nat → Nat} {n : Nat} (i : Nat) (hT : zt_a T n i < n → T (zt_a T n i) < 256) : zt_K T n i ≤ 36 := by
  unfold zt_K
  by_cases c : zt_a T n i < n
  · rw [if_pos c]
    have h1 := zt_kf_b (zt_w T n (zt_a T n i)) 18 0
    have h2 := (zt_sgB _ (hT c)).2
    unfold zt_k zt_wk
    generalize zt_kf (zt_w T n (zt_a T n i)) 18 0 = x at *
    generalize zt_sg (T (zt_a T n i)) = y at *
    split
    · split <;> omega
    · split
      · split <;> omega
      · split
        · split <;> omega
        · split
          · split
            · omega
            · split <;> omega
          · omega
  · rw [if_neg c]; omega
/-- one sign -/
def zt_ix (c : Nat) : Int32 := if zt_sg c = 1 then -1 else nI (zt_sg c - 5)
theorem zt_ixE : ∀ c, c < 256 → f_J0_indexOf_0f7a4 2 ((Int32.toUInt32 (nI c) % 65536).toInt32) = some (zt_ix c) := by decide +kernel
theorem zt_sign1 {sw : Bool} {I : zI} {i a c : Nat} (hi : i < 501) (hc : c < 256) (ha : a ≤ 2000) : j_X8_keepSign_72 2 (nI i) (nI a) (nI c) I (zE_R sw) = some (nI (a + 1), zw_u I 4 i (nI (zt_sg c))) := by
  obtain ⟨b1, b2⟩ := zt_sgB c hc
  unfold j_X8_keepSign_72 j_X8_keepSign_99
  rw [show zw_g (decide (2 < 3)) = fun (x : Option (Int32 × zI)) => x from rfl]
  simp only [zt_ixE c hc, Option.bind_some, zE_gC, zE_rC sw, zE_sC, zw_g_t, zE_in hi (by decide), zE_cl (show i < 2 ^ 31 by omega), zw_let_e, nI_1]
  unfold zt_ix
  by_cases e : zt_sg c = 1
  · rw [if_pos e, if_neg (show ¬ (0 : Int32) ≤ -1 by decide), e]
    rfl
  · rw [if_neg e, if_pos (show (0 : Int32) ≤ nI (zt_sg c - 5) from nI_pos' (by omega)), show (5 : Int32) = nI 5 from rfl, nI_add, show 5 + (zt_sg c - 5) = zt_sg c by omega]
theorem zt_keepSign {sw : Bool} {I : zI} {T : Nat → Nat} {n a i : Nat} (h : zt_TC I T n) (hi : i < 501) (ha : a < n) : ∃ I2, f_X8_keepSign 2 (nI i) (nI a) I (zE_R sw) = some (nI (if a + 1 < n ∧ T (a + 1) = 61 ∧ (T a = 60 ∨ T a = 61 ∨ T a = 33) then a + 2 else a + 1), I2) ∧ (∀ x, x ≠ 4 → I2 x = I x) ∧ (∀ y, y ≠ i → I2 4 y = I 4 y) ∧ I2 4 i = nI (if a + 1 < n ∧ T (a + 1) = 61 ∧ (T a = 60 ∨ T a = 61 ∨ T a = 33) then (if T a = 60 then 15 else if T a = 61 then 16 else 17) else zt_sg (T a)) := by
  have hn := h.1
  have ta := (h.2.2 a ha).2
  have one : ∀ v : Int32, ∃ I2, some (nI (a + 1), zw_u (zw_u I 4 i v) 4 i (nI (zt_sg (T a)))) = some (nI (a + 1), I2) ∧ (∀ x, x ≠ 4 → I2 x = I x) ∧ (∀ y, y ≠ i → I2 4 y = I 4 y) ∧ I2 4 i = nI (zt_sg (T a)) := fun v => ⟨_, rfl, fun x hx => by rw [zw_u_off _ _ _ hx, zw_u_off _ _ _ hx], fun y hy => by rw [zE_u2 _ _ (by omega), zE_u2 _ _ (by omega)], zE_u1 _ _ _ _⟩
  have one' : ∃ I2, some (nI (a + 1), zw_u I 4 i (nI (zt_sg (T a)))) = some (nI (a + 1), I2) ∧ (∀ x, x ≠ 4 → I2 x = I x) ∧ (∀ y, y ≠ i → I2 4 y = I 4 y) ∧ I2 4 i = nI (zt_sg (T a)) := ⟨_, rfl, fun x hx => by rw [zw_u_off _ _ _ hx], fun y hy => by rw [zE_u2 _ _ (by omega)], zE_u1 _ _ _ _⟩
  have j57 : ∀ k : Nat, k < 20 → j_X8_keepSign_57 2 (nI i) (nI a) (nI (T a)) 4 (nI i) (nI k) I (zE_R sw) = if k = 1 then some (nI (a + 1), zw_u (zw_u I 4 i (nI k)) 4 i (nI (zt_sg (T a)))) else some (nI (a + 2), zw_u I 4 i (nI k)) := by
    intro k hk
    unfold j_X8_keepSign_57
    have e2 : nI a + 2 = nI (a + 2) := nI_add a 2
    simp only [zE_gC, zE_rC sw, zE_sC, zw_g_t, zE_in hi (by decide), zE_cl (show i < 2 ^ 31 by omega), zw_let_e, zE_u1, zt_sign1 (sw := sw) hi ta (show a ≤ 2000 by omega), e2]
    by_cases c : k = 1
    · rw [if_pos (show nI k = (1 : Int32) by rw [c]; rfl), if_pos c]
    · rw [if_neg (show ¬ nI k = (1 : Int32) from zr_ne (b := 1) c (by omega) (by decide)), if_neg c]
  have two : ∀ k : Nat, ∃ I2, some (nI (a + 2), zw_u I 4 i (nI k)) = some (nI (a + 2), I2) ∧ (∀ x, x ≠ 4 → I2 x = I x) ∧ (∀ y, y ≠ i → I2 4 y = I 4 y) ∧ I2 4 i = nI k := fun k => ⟨_, rfl, fun x hx => by rw [zw_u_off _ _ _ hx], fun y hy => by rw [zE_u2 _ _ (by omega)], zE_u1 _ _ _ _⟩
  unfold f_X8_keepSign
  simp only [zE_gC, zE_rC sw, zw_g_t, zt_byC (sw := sw) h (show a < 2 ^ 31 by omega), nI_1, zt_byC (sw := sw) h (show a + 1 < 2 ^ 31 by omega), if_pos ha, Option.bind_some, zt_sign1 (sw := sw) hi ta (show a ≤ 2000 by omega)]
  by_cases c1 : a + 1 < n
  · have tb := (h.2.2 (a + 1) c1).2
    rw [if_pos c1]
    by_cases c2 : T (a + 1) = 61
    · rw [if_neg (show ¬ ¬ nI (T (a + 1)) = (61 : Int32) from fun r => r (by rw [c2]; rfl))]
      by_cases c3 : T a = 60
      · rw [if_neg (show ¬ ¬ nI (T a) = (60 : Int32) from fun r => r (by rw [c3]; rfl)), if_pos ⟨c1, c2, Or.inl c3⟩, if_pos ⟨c1, c2, Or.inl c3⟩, if_pos c3]
        have := j57 15 (by decide)
        rw [if_neg (by decide)] at this
        rw [show (15 : Int32) = nI 15 from rfl, this]
        exact two 15
      · rw [if_pos (show ¬ nI (T a) = (60 : Int32) from zr_ne (b := 60) c3 (by omega) (by decide))]
        by_cases c4 : T a = 61
        · rw [if_neg (show ¬ ¬ nI (T a) = (61 : Int32) from fun r => r (by rw [c4]; rfl)), if_pos ⟨c1, c2, Or.inr (Or.inl c4)⟩, if_pos ⟨c1, c2, Or.inr (Or.inl c4)⟩, if_neg c3, if_pos c4]
          have := j57 16 (by decide)
          rw [if_neg (by decide)] at this
          rw [show (16 : Int32) = nI 16 from rfl, this]
          exact two 16
        · rw [if_pos (show ¬ nI (T a) = (61 : Int32) from zr_ne (b := 61) c4 (by omega) (by decide))]
          by_cases c5 : T a = 33
          · rw [if_neg (show ¬ ¬ nI (T a) = (33 : Int32) from fun r => r (by rw [c5]; rfl)), if_pos ⟨c1, c2, Or.inr (Or.inr c5)⟩, if_pos ⟨c1, c2, Or.inr (Or.inr c5)⟩, if_neg c3, if_neg c4]
            have := j57 17 (by decide)
            rw [if_neg (by decide)] at this
            rw [show (17 : Int32) = nI 17 from rfl, this]
            exact two 17
          · rw [if_pos (show ¬ nI (T a) = (33 : Int32) from zr_ne (b := 33) c5 (by omega) (by decide)), if_neg (fun r => by omega), if_neg (fun r => by omega)]
            have := j57 1 (by decide)
            rw [if_pos rfl] at this
            rw [show (1 : Int32) = nI 1 from rfl, this]
            exact one _
    · rw [if_pos (show ¬ nI (T (a + 1)) = (61 : Int32) from zr_ne (b := 61) c2 (by omega) (by decide)), if_neg (fun r => c2 r.2.1), if_neg (fun r => c2 r.2.1)]
      exact one'
  · rw [if_neg c1, if_pos (show ¬ (-1 : Int32) = 61 by decide), if_neg (fun r => c1 r.1), if_neg (fun r => c1 r.1)]
    exact one'
