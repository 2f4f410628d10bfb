/-! ===== the names told so far ===== -/
/-- ts: the tokens of the names, in their order; the model has every one, the class each different one -/
def zn_N (T : Nat → Nat) (n : Nat) (b : Bool) (sd : Nat) (I : zI) (J : zJ) (ts : List Nat) : Prop := ts.length ≤ 30 ∧ (∀ u, u ∈ ts → u ≤ 500 ∧ zt_go T n u ∧ zt_K T n u = 2) ∧ I 156 sd = nI ts.length ∧ (∀ v, (∃ i, i < ts.length ∧ J 157 (30 * sd + i) = v) ↔ ∃ u, u ∈ ts ∧ J 154 u = v) ∧ ∃ k, k ≤ ts.length ∧ I (zE_h b) 11 = nI k ∧ ∀ v, (∃ i, i < k ∧ J (zE_h b + 6) i = v) ↔ ∃ u, u ∈ ts ∧ J 6 u = v
/-- both find a name, or neither does -/
theorem zn_both {T : Nat → Nat} {n t sd : Nat} {b : Bool} {I : zI} {J : zJ} {ts : List Nat} (hX : zp_X T n I J) (hY : zp_Y T n I J) (h : zn_N T n b sd I J ts) (ht : t ≤ 500) (hg : zt_go T n t) (hk : zt_K T n t = 2) {k : Nat} (k30 : k ≤ 30) (e11 : I (zE_h b) 11 = nI k) : (∃ i, i < k ∧ J (zE_h b + 6) i = J 6 t) ↔ ∃ i, i < ts.length ∧ J 157 (30 * sd + i) = J 154 t := by
  obtain ⟨a1, a2, a3, a4, k2, a5, a6, a7⟩ := h
  have ek : k = k2 := by
    by_cases c : k = k2
    · exact c
    · exact absurd (e11.symm.trans a6) (zr_ne c (by omega) (by omega))
  subst ek
  rw [a7, a4]
  constructor
  · rintro ⟨u, u1, u2⟩
    obtain ⟨p1, p2, p3⟩ := a2 u u1
    exact ⟨u, u1, (zn_same hX hY p1 p2 ht hg p3 hk).mp u2⟩
  · rintro ⟨u, u1, u2⟩
    obtain ⟨p1, p2, p3⟩ := a2 u u1
    exact ⟨u, u1, (zn_same hX hY p1 p2 ht hg p3 hk).mpr u2⟩
