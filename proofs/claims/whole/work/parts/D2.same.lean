/-! ===== a name twice: in the class just where in the model ===== -/
theorem zn_sg (c : Nat) : zt_sg c ≠ 2 := by
  unfold zt_sg
  repeat' split
  all_goals decide
theorem zn_word {T : Nat → Nat} {n t : Nat} (h : zt_K T n t = 2) : zt_a T n t < n ∧ zt_L (T (zt_a T n t)) = true ∧ zt_e T n (zt_a T n t) - zt_a T n t ≤ 8 ∧ zt_dg (zt_w T n (zt_a T n t)) ∧ (zt_w T n (zt_a T n t)).length ≤ 8 := by
  unfold zt_K at h
  by_cases c : zt_a T n t < n
  · rw [if_pos c] at h
    obtain ⟨a, ea⟩ : ∃ a, a = zt_a T n t := ⟨_, rfl⟩
    rw [← ea] at h c ⊢
    by_cases c1 : zt_L (T a) = true
    · by_cases c2 : zt_e T n a - a ≤ 8
      · refine ⟨c, c1, c2, ?_, ?_⟩
        · unfold zt_w
          rw [if_pos c1]
          unfold zt_e
          rw [if_pos c1]
          exact zt_rl_dg (zt_dgw c1)
        · unfold zt_w
          rw [if_pos c1, zt_rl_len]
          exact c2
      · unfold zt_k at h
        rw [if_pos c1, if_neg c2] at h
        exact absurd h (by decide)
    · unfold zt_k at h
      rw [if_neg c1] at h
      by_cases d1 : zt_D (T a) = true
      · rw [if_pos d1] at h
        split at h <;> exact absurd h (by decide)
      · rw [if_neg d1] at h
        by_cases d2 : T a = 39
        · rw [if_pos d2] at h
          split at h <;> exact absurd h (by decide)
        · rw [if_neg d2] at h
          by_cases d3 : a + 1 < n ∧ T (a + 1) = 61 ∧ (T a = 60 ∨ T a = 61 ∨ T a = 33)
          · rw [if_pos d3] at h
            split at h
            · exact absurd h (by decide)
            · split at h <;> exact absurd h (by decide)
          · rw [if_neg d3] at h
            exact absurd h (zn_sg _)
  · rw [if_neg c] at h
    exact absurd h (by decide)
theorem zn_en32 {l : List Nat} (h : zt_dg l) (hl : l.length ≤ 8) : zt_en 32 l < 2 ^ 63 := by
  have h1 := zt_en_lt (B := 32) (by decide) l h
  have h2 : 32 ^ l.length ≤ 32 ^ 8 := Nat.pow_le_pow_right (n := 32) (by decide) hl
  have h3 : 32 ^ 8 < 2 ^ 63 := by decide
  omega
/-- the class's value and the model's of a name -/
theorem zn_val {T : Nat → Nat} {n t : Nat} {I Im : zI} {J Jm : zJ} (hX : zp_X T n I J) (hY : zp_Y T n Im Jm) (ht : t ≤ 500) (hg : zt_go T n t) (h : zt_K T n t = 2) : J 6 t = lN (zt_en 32 (zt_w T n (zt_a T n t))) ∧ Jm 154 t = lN (zt_en 27 (zt_w T n (zt_a T n t))) := by
  obtain ⟨w1, w2, w3, w4, w5⟩ := zn_word h
  obtain ⟨-, -, x3⟩ := hX.2.2 t ht hg
  obtain ⟨-, -, -, y4⟩ := hY.2.2 t ht hg
  refine ⟨?_, ?_⟩
  · rw [x3, if_pos w1]
    unfold zt_cv
    rw [if_pos w2, if_pos w3]
  · rw [y4, if_pos w1]
    unfold zt_mn zt_w
    rw [if_pos w2, if_pos w2, Nat.min_eq_right w3]
theorem zn_same {T : Nat → Nat} {n t u : Nat} {I Im : zI} {J Jm : zJ} (hX : zp_X T n I J) (hY : zp_Y T n Im Jm) (ht : t ≤ 500) (hg : zt_go T n t) (hu : u ≤ 500) (hgu : zt_go T n u) (h : zt_K T n t = 2) (k : zt_K T n u = 2) : J 6 t = J 6 u ↔ Jm 154 t = Jm 154 u := by
  obtain ⟨-, -, -, w4, w5⟩ := zn_word h
  obtain ⟨-, -, -, v4, v5⟩ := zn_word k
  obtain ⟨a1, a2⟩ := zn_val hX hY ht hg h
  obtain ⟨b1, b2⟩ := zn_val hX hY hu hgu k
  rw [a1, a2, b1, b2, pk_lEQ (zn_en32 w4 w5) (zn_en32 v4 v5), pk_lEQ (zt_en63 w4 w5) (zt_en63 v4 v5)]
  exact ⟨fun q => by rw [zt_en_in (B := 32) (by decide) _ _ w4 v4 q], fun q => by rw [zt_en_in (B := 27) (by decide) _ _ w4 v4 q]⟩
