/-! ===== the start ===== -/
theorem zX_i0 : zs_S1.1 2 1 = nI 0 ∧ zs_S1.1 148 2 = nI 0 ∧ zs_S1.1 7 1 = zs_S1.1 148 17 ∧ zs_S1.1 1 4 = 0 ∧ zs_S1.1 148 61 = 0 ∧ zs_S1.1 1 6 = 0 ∧ zs_S1.1 148 65 = 0 ∧ zs_S1.1 148 70 = 0 ∧ zs_S1.1 142 0 = nI 0 ∧ zs_S1.1 148 75 = nI 0 := by
  refine ⟨?_, ?_, ?_, ?_, ?_, ?_, ?_, ?_, ?_, ?_⟩ <;> decide +kernel
theorem zX_i1 : ∀ j, j < 7 → zs_S1.1 141 j = -1 := by decide +kernel
theorem zX_i2 : zs_S1.1 65 1 = nI 0 ∧ zs_S1.1 65 3 = nI 0 ∧ zs_S1.1 65 5 = nI 0 ∧ zs_S1.1 65 7 = nI 0 ∧ zs_S1.1 65 9 = nI 0 ∧ zs_S1.1 65 14 = nI 0 ∧ zs_S1.1 148 18 = nI 0 ∧ zs_S1.1 158 0 = nI 0 ∧ zs_S1.1 162 0 = nI 0 ∧ zs_S1.1 163 0 = nI 0 ∧ zs_S1.1 167 0 = nI 0 ∧ zs_S1.1 168 0 = nI 0 ∧ zs_S1.1 148 16 = nI 0 := by
  refine ⟨?_, ?_, ?_, ?_, ?_, ?_, ?_, ?_, ?_, ?_, ?_, ?_, ?_⟩ <;> decide +kernel
theorem zX_i3 : zs_S1.1 132 5 = nI 1000 ∧ zs_S1.1 132 6 = nI 0 ∧ zs_S1.1 132 7 = nI 0 ∧ zs_S1.1 132 8 = 1 ∧ zs_S1.1 132 9 = 0 := by
  refine ⟨?_, ?_, ?_, ?_, ?_⟩ <;> decide +kernel
theorem zX_i4 : ∀ k, k < 18 → zs_S1.2.2 155 k = lN (zt_en 27 (zt_kw (zt_pm k))) := by decide +kernel
theorem zX_nh {k : Nat} (h : zq_H.has zx_H0 k) : False := by
  rcases h with h | ⟨h1, h2⟩
  · exact absurd h (Nat.not_lt_zero _)
  · have h2 : k < 6 + 0 := h2
    omega
theorem zX_nq {k : Nat} (h : zr_has ((0, 0, fun _ => [], fun _ => []) : zr_Q) k) : False := by
  rcases h with h | ⟨h1, h2⟩
  · exact absurd h (Nat.not_lt_zero _)
  · have h2 : k < 8 + 0 := h2
    omega
theorem zX_0 : zX_Rel zs_S1 := by
  refine ⟨false, zx_H0, ((0, 0, fun _ => [], fun _ => []) : zr_Q), 0, zE_R0, (?_ : zX_C false zs_S1.1 zs_S1.2.2 zx_H0 ((0, 0, fun _ => [], fun _ => []) : zr_Q) 0)⟩
  obtain ⟨a1, a2, a3, a4, a5, a6, a7, a8, a9, a10⟩ := zX_i0
  obtain ⟨b1, b2, b3, b4, b5, b6, b7, b8, b9, b10, b11, b12, b13⟩ := zX_i2
  exact ⟨⟨0, Nat.zero_le _, a1, a2, fun j hj => absurd hj (Nat.not_lt_zero _)⟩, a3, Or.inl ⟨a4, a5⟩, Or.inl ⟨a6, a7⟩, Or.inl ⟨a8, zX_i1⟩, ⟨Nat.zero_le _, a9, a10, fun j hj => absurd hj (Nat.not_lt_zero _)⟩,
    ⟨Nat.zero_le _, Nat.zero_le _, Nat.zero_le _, fun _ _ => ⟨Nat.zero_le _, Nat.zero_le _, Nat.zero_le _⟩, fun k hk => (zX_nh hk).elim⟩,
    ⟨b1, b2, b3, fun k hk => absurd hk (Nat.not_lt_zero _), fun k hk => (zX_nh hk).elim⟩,
    ⟨b7, b8, b9, b10, fun k hk => absurd hk (Nat.not_lt_zero _), fun k hk => (zX_nh hk).elim⟩,
    ⟨Nat.zero_le _, Nat.zero_le _, fun k hk => (zX_nq hk).elim⟩,
    ⟨b4, b5, 0, Nat.zero_le _, b6, fun k hk => (zX_nq hk).elim⟩,
    ⟨b11, b12, fun k hk => (zX_nq hk).elim⟩,
    zX_i3, fun c s co h1 => absurd h1 (Nat.not_lt_zero _), zX_i4, 0, Nat.zero_le _, b13⟩
