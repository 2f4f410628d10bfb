/-! ===== one name more ===== -/
theorem zn_more {A A2 : Nat → Int64} {o m : Nat} {w : Int64} (h1 : A2 (o + m) = w) (h2 : ∀ i, i < m → A2 (o + i) = A (o + i)) (v : Int64) : (∃ i, i < m + 1 ∧ A2 (o + i) = v) ↔ (w = v ∨ ∃ i, i < m ∧ A (o + i) = v) := by
  constructor
  · rintro ⟨i, i1, i2⟩
    by_cases c : i = m
    · subst c
      exact Or.inl (h1.symm.trans i2)
    · exact Or.inr ⟨i, by omega, (h2 i (by omega)).symm.trans i2⟩
  · rintro (e | ⟨i, i1, i2⟩)
    · exact ⟨m, by omega, h1.trans e⟩
    · exact ⟨i, by omega, (h2 i i1).trans i2⟩
theorem zn_cons {J : Nat → Int64} {t : Nat} {ts : List Nat} (v : Int64) : (∃ u, u ∈ t :: ts ∧ J u = v) ↔ (J t = v ∨ ∃ u, u ∈ ts ∧ J u = v) := by
  constructor
  · rintro ⟨u, u1, u2⟩
    rcases List.mem_cons.mp u1 with e | e
    · subst e; exact Or.inl u2
    · exact Or.inr ⟨u, e, u2⟩
  · rintro (e | ⟨u, u1, u2⟩)
    · exact ⟨t, List.mem_cons_self .., e⟩
    · exact ⟨u, List.mem_cons_of_mem _ u1, u2⟩
theorem zn_next {T : Nat → Nat} {n t sd k : Nat} {b : Bool} {I I2 : zI} {J J2 : zJ} {ts : List Nat} (h : zn_N T n b sd I J ts) (hl : ts.length < 30) (ht : t ≤ 500) (hg : zt_go T n t) (hk : zt_K T n t = 2) (e11 : I (zE_h b) 11 = nI k) (k30 : k ≤ 30) (h156 : I2 156 sd = nI (ts.length + 1)) (h154 : J2 154 = J 154) (h6 : J2 6 = J 6) (m1 : J2 157 (30 * sd + ts.length) = J 154 t) (m2 : ∀ i, i < ts.length → J2 157 (30 * sd + i) = J 157 (30 * sd + i)) (hc : (I2 (zE_h b) 11 = nI (k + 1) ∧ J2 (zE_h b + 6) k = J 6 t ∧ ∀ i, i < k → J2 (zE_h b + 6) i = J (zE_h b + 6) i) ∨ ((∃ i, i < k ∧ J (zE_h b + 6) i = J 6 t) ∧ I2 (zE_h b) 11 = nI k ∧ J2 (zE_h b + 6) = J (zE_h b + 6))) : zn_N T n b sd I2 J2 (t :: ts) := by
  obtain ⟨a1, a2, a3, a4, k2, a5, a6, a7⟩ := h
  have ek : k = k2 := by
    by_cases c : k = k2
    · exact c
    · exact absurd (e11.symm.trans a6) (zr_ne c (by omega) (by omega))
  subst ek
  have lc : (t :: ts).length = ts.length + 1 := List.length_cons
  refine ⟨by omega, fun u hu => ?_, by rw [lc]; exact h156, fun v => ?_, ?_⟩
  · rcases List.mem_cons.mp hu with e | e
    · subst e; exact ⟨ht, hg, hk⟩
    · exact a2 u e
  · rw [lc, zn_more m1 m2, h154, zn_cons, a4]
  · rcases hc with ⟨c1, c2, c3⟩ | ⟨c0, c1, c2⟩
    · refine ⟨k + 1, by omega, c1, fun v => ?_⟩
      have := zn_more (A := J (zE_h b + 6)) (A2 := J2 (zE_h b + 6)) (o := 0) (m := k) (w := J 6 t) (by rw [Nat.zero_add]; exact c2) (fun i hi => by rw [Nat.zero_add]; exact c3 i hi) v
      simp only [Nat.zero_add] at this
      rw [this, h6, zn_cons, a7]
    · refine ⟨k, by omega, c1, fun v => ?_⟩
      rw [c2, h6, zn_cons, a7]
      constructor
      · exact fun q => Or.inr q
      · rintro (e | q)
        · rw [← e]; exact (a7 _).mp c0
        · exact q
