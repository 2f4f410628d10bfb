/-! ===== the pure part: combinators, numbers, loops ===== -/
theorem zw_g_t {α : Type} (x : Option α) : zw_g true x = x := rfl
theorem zw_let_e {α β : Type} (a : α) (f : α → β) : zw_let a f = f a := rfl
theorem zE_in {k n : Nat} (h : k < n) (hn : n < 2 ^ 31) : zw_in (nI k) n = true := decide_eq_true (vp_in_nI h hn)
theorem zE_it1 {σ ρ : Type} {step : σ → Option (σ ⊕ ρ)} {s t : σ} (n : Nat) (h : step s = some (.inl t)) : zw_it step (n + 1) s = zw_it step n t := by
  show (step s).bind _ = _
  rw [h]
  rfl
theorem zE_it0 {σ ρ : Type} {step : σ → Option (σ ⊕ ρ)} {s : σ} {r : ρ} (n : Nat) (h : step s = some (.inr r)) : zw_it step (n + 1) s = some r := by
  show (step s).bind _ = _
  rw [h]
  rfl
/-- a loop that comes to its end: a measure m, an invariant, what holds at the end -/
theorem zE_loop {σ ρ : Type} {step : σ → Option (σ ⊕ ρ)} (Inv : Nat → σ → Prop) (Post : ρ → Prop) (h : ∀ m s, Inv m s → (∃ t m2, step s = some (.inl t) ∧ m2 < m ∧ Inv m2 t) ∨ (∃ r, step s = some (.inr r) ∧ Post r)) : ∀ (n m : Nat) (s : σ), m < n → Inv m s → ∃ r, zw_it step n s = some r ∧ Post r
  | 0, m, s, hm, _ => absurd hm (Nat.not_lt_zero m)
  | n + 1, m, s, hm, hi => by
    rcases h m s hi with ⟨t, m2, h1, h2, h3⟩ | ⟨r, h1, h2⟩
    · rw [zE_it1 n h1]
      exact zE_loop Inv Post h n m2 t (by omega) h3
    · exact ⟨r, zE_it0 n h1, h2⟩
theorem zE_u1 {α : Type} (f : Nat → Nat → α) (o k : Nat) (v : α) : zw_u f o k v o k = v := by simp [zw_u]
theorem zE_u2 {α : Type} (f : Nat → Nat → α) {o k a b : Nat} (v : α) (h : ¬ (a = o ∧ b = k)) : zw_u f o k v a b = f a b := by simp only [zw_u, if_neg h]
theorem zE_cl {k : Nat} (h : k < 2 ^ 31) : Int32.toNatClampNeg (nI k) = k := nI_clamp h
theorem zE_RW (sw : Bool) : zE_Sp (zE_R sw) := by
  intro o j
  unfold zE_R
  split
  · rename_i q
    rw [q.1]
    exact Or.inr (by cases sw <;> decide +kernel)
  · split
    · rename_i q
      rw [q.1]
      exact Or.inr (by cases sw <;> decide +kernel)
    · exact zE_sp o j
/-- a set of cells that holds 0 and is closed under references -/
theorem zE_clo {sw : Bool} (u : Nat → Bool) (h0 : u 0 = true) (h : zE_W.all (fun q => !u q.1 || u q.2) = true) : ∀ o j, u o = true → u (zE_R sw o j) = true := by
  intro o j ho
  rcases zE_RW sw o j with hz | hz
  · rw [hz]; exact h0
  · have h3 := List.all_eq_true.mp h _ hz
    dsimp only at h3
    rw [ho] at h3
    simpa using h3
def zE_uC (o : Nat) : Bool := decide (o < 148)
def zE_uM (o : Nat) : Bool := decide (o = 0 ∨ 148 ≤ o)
theorem zE_cC (sw : Bool) : ∀ o j, zE_uC o = true → zE_uC (zE_R sw o j) = true := zE_clo zE_uC rfl (by decide +kernel)
theorem zE_cM (sw : Bool) : ∀ o j, zE_uM o = true → zE_uM (zE_R sw o j) = true := zE_clo zE_uM rfl (by decide +kernel)
/-- cells lo .. hi -/
def zE_ur (lo hi o : Nat) : Bool := decide (o = 0 ∨ (lo ≤ o ∧ o ≤ hi))
theorem zE_cL (sw : Bool) : (∀ o j, zE_ur 122 125 o = true → zE_ur 122 125 (zE_R sw o j) = true) ∧ (∀ o j, zE_ur 126 131 o = true → zE_ur 126 131 (zE_R sw o j) = true) ∧ (∀ o j, zE_ur 132 137 o = true → zE_ur 132 137 (zE_R sw o j) = true) ∧ (∀ o j, zE_ur 2 6 o = true → zE_ur 2 6 (zE_R sw o j) = true) ∧ (∀ o j, zE_ur 142 146 o = true → zE_ur 142 146 (zE_R sw o j) = true) ∧ (∀ o j, zE_ur 138 139 o = true → zE_ur 138 139 (zE_R sw o j) = true) := ⟨zE_clo _ rfl (by decide +kernel), zE_clo _ rfl (by decide +kernel), zE_clo _ rfl (by decide +kernel), zE_clo _ rfl (by decide +kernel), zE_clo _ rfl (by decide +kernel), zE_clo _ rfl (by decide +kernel)⟩
