/-! ===== names: the start, and what leaves them alone ===== -/
theorem zn_N_0 {T : Nat → Nat} {n sd : Nat} {b : Bool} {I : zI} {J : zJ} (h1 : I 156 sd = 0) (h2 : I (zE_h b) 11 = 0) : zn_N T n b sd I J [] := by
  refine ⟨by decide, fun u hu => absurd hu List.not_mem_nil, h1, fun v => ⟨?_, ?_⟩, 0, Nat.le_refl _, h2, fun v => ⟨?_, ?_⟩⟩
  · rintro ⟨i, hi, -⟩
    exact absurd hi (Nat.not_lt_zero _)
  · rintro ⟨u, hu, -⟩
    exact absurd hu List.not_mem_nil
  · rintro ⟨i, hi, -⟩
    exact absurd hi (Nat.not_lt_zero _)
  · rintro ⟨u, hu, -⟩
    exact absurd hu List.not_mem_nil
theorem zn_N_tr {T : Nat → Nat} {n sd : Nat} {b : Bool} {I I2 : zI} {J J2 : zJ} {ts : List Nat} (h : zn_N T n b sd I J ts) (h1 : I2 156 sd = I 156 sd) (h2 : I2 (zE_h b) 11 = I (zE_h b) 11) (h3 : J2 157 = J 157) (h4 : J2 154 = J 154) (h5 : J2 6 = J 6) (h6 : J2 (zE_h b + 6) = J (zE_h b + 6)) : zn_N T n b sd I2 J2 ts := by
  unfold zn_N
  rw [h1, h2, h3, h4, h5, h6]
  exact h
