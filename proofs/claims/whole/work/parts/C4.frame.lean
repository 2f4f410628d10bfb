/-! ===== what a rule's reading leaves alone in the model ===== -/
/-- nothing but the code from m0 on, the literals from l0 on, and the reading's own fields -/
def zm_u (I : zI) : Nat := 520 * (Int32.toNatClampNeg (I 148 19) + 1)
def zm_v (I : zI) : Nat := 200 * (Int32.toNatClampNeg (I 148 19) + 1)
def zm_Fr (I0 I : zI) (m0 l0 : Nat) : Prop := (∀ a, a ≠ 148 → ¬ (173 ≤ a ∧ a ≤ 181) → I a = I0 a) ∧ (∀ y, y ≠ 11 → y ≠ 12 → y ≠ 13 → y ≠ 14 → y ≠ 37 → y ≠ 44 → y ≠ 48 → I 148 y = I0 148 y) ∧ (∀ i, (i < m0 ∨ zm_u I0 ≤ i) → I 179 i = I0 179 i ∧ I 180 i = I0 180 i) ∧ ∀ a i, 173 ≤ a → a ≤ 178 → (i < l0 ∨ zm_v I0 ≤ i) → I a i = I0 a i
theorem zm_Fr_r (I : zI) (m0 l0 : Nat) : zm_Fr I I m0 l0 := ⟨fun _ _ _ => rfl, fun _ _ _ _ _ _ _ _ => rfl, fun _ _ => ⟨rfl, rfl⟩, fun _ _ _ _ _ => rfl⟩
theorem zm_Fr.uv {I0 I : zI} {m0 l0 : Nat} (h : zm_Fr I0 I m0 l0) : zm_u I = zm_u I0 ∧ zm_v I = zm_v I0 := by
  have e : I 148 19 = I0 148 19 := h.2.1 19 (by decide) (by decide) (by decide) (by decide) (by decide) (by decide) (by decide)
  unfold zm_u zm_v
  rw [e]
  exact ⟨rfl, rfl⟩
theorem zm_Fr.tr {I0 I I2 : zI} {m0 l0 m l : Nat} (h : zm_Fr I0 I m0 l0) (h2 : zm_Fr I I2 m l) (hm : m0 ≤ m) (hl : l0 ≤ l) : zm_Fr I0 I2 m0 l0 := by
  obtain ⟨u1, u2⟩ := h.uv
  exact ⟨fun a b1 b2 => (h2.1 a b1 b2).trans (h.1 a b1 b2), fun y b1 b2 b3 b4 b5 b6 b7 => (h2.2.1 y b1 b2 b3 b4 b5 b6 b7).trans (h.2.1 y b1 b2 b3 b4 b5 b6 b7), fun i hi => ⟨(h2.2.2.1 i (by omega)).1.trans (h.2.2.1 i hi).1, (h2.2.2.1 i (by omega)).2.trans (h.2.2.1 i hi).2⟩, fun a i b1 b2 hi => (h2.2.2.2 a i b1 b2 (by omega)).trans (h.2.2.2 a i b1 b2 hi)⟩
theorem zm_Fr.Y {T : Nat → Nat} {n : Nat} {I0 I : zI} {J : zJ} {m0 l0 : Nat} (h : zm_Fr I0 I m0 l0) (hY : zp_Y T n I0 J) : zp_Y T n I J := zp_Y_tr hY (h.1 151 (by decide) (by decide)) (h.1 152 (by decide) (by decide)) (h.1 153 (by decide) (by decide)) rfl
theorem zm_T_Fr {T : Nat → Nat} {n : Nat} {I0 I : zI} {t : Nat} {φ : Nat × Nat} (h : zm_T T n I0 I t φ) (m0 l0 : Nat) : zm_Fr I0 I m0 l0 := ⟨fun a b1 _ => h.1 a b1, fun y b1 _ b3 b4 _ _ _ => h.2.2.2.2 y b1 b3 b4, fun i _ => by rw [h.1 179 (by decide), h.1 180 (by decide)]; exact ⟨rfl, rfl⟩, fun a i b1 b2 _ => by rw [h.1 a (by omega)]⟩
theorem zm_G_Fr {T : Nat → Nat} {n : Nat} {I0 I : zI} {m0 t o : Nat} {W : List Nat} {c : List zr_C} {φ : Nat × Nat} (h : zm_G T n I0 I m0 t o W c φ) (hu : m0 + c.length ≤ zm_u I0) (l0 : Nat) : zm_Fr I0 I m0 l0 := by
  obtain ⟨a1, a2, a3, a4, a5, a6, a7, a8, a9, a10, a11⟩ := h
  exact ⟨fun a b1 b2 => a1 a b1 (by omega) (by omega) (by omega), fun y b1 b2 b3 b4 b5 b6 b7 => a9 y b1 b2 b3 b4 b6 b7, fun i hi => a11 i (by omega), fun a i b1 b2 _ => by rw [a1 a (by omega) (by omega) (by omega) (by omega)]⟩
/-- code from m0 to m, literals from l0 to l stand -/
def zm_Cl (I I3 : zI) (m0 m l0 l : Nat) : Prop := (∀ i, m0 ≤ i → i < m → I3 179 i = I 179 i ∧ I3 180 i = I 180 i) ∧ ∀ a i, 173 ≤ a → a ≤ 178 → l0 ≤ i → i < l → I3 a i = I a i
/-- behind a fault y -/
def zm_D (T : Nat → Nat) (n : Nat) (I0 I : zI) (m0 l0 : Nat) (y : Nat × Nat) : Prop := zm_Fr I0 I m0 l0 ∧ (y.1 = 1 ∨ y.1 = 2) ∧ I 148 13 = nI y.1 ∧ I 148 14 = nI (zt_a T n y.2) ∧ ∃ t, t ≤ 500 ∧ I 148 11 = nI t
theorem zm_D.ne {T : Nat → Nat} {n : Nat} {I0 I : zI} {m0 l0 : Nat} {y : Nat × Nat} (h : zm_D T n I0 I m0 l0 y) : ¬ I 148 13 = 0 ∧ ¬ I 148 13 ≤ 0 := by
  rw [h.2.2.1]
  rcases h.2.1 with e | e <;> rw [e] <;> decide
theorem zm_D.base {T : Nat → Nat} {n : Nat} {I0 I I2 : zI} {m0 l0 m l : Nat} {y : Nat × Nat} (h : zm_Fr I0 I m0 l0) (h2 : zm_D T n I I2 m l y) (hm : m0 ≤ m) (hl : l0 ≤ l) : zm_D T n I0 I2 m0 l0 y := ⟨h.tr h2.1 hm hl, h2.2⟩
theorem zm_T_D {T : Nat → Nat} {n : Nat} {I0 I : zI} {t : Nat} {y : Nat × Nat} (h : zm_T T n I0 I t y) (hy : y.1 = 1 ∨ y.1 = 2) (ht : t ≤ 500) (m0 l0 : Nat) : zm_D T n I0 I m0 l0 y := ⟨zm_T_Fr h m0 l0, hy, h.2.1, h.2.2.1 (by omega), t, ht, h.2.2.2.1⟩
theorem zm_G_D {T : Nat → Nat} {n : Nat} {I0 I : zI} {m0 t o : Nat} {W : List Nat} {c : List zr_C} {y : Nat × Nat} (h : zm_G T n I0 I m0 t o W c y) (hu : m0 + c.length ≤ zm_u I0) (hy : y.1 = 1 ∨ y.1 = 2) (ht : t ≤ 500) (l0 : Nat) : zm_D T n I0 I m0 l0 y := ⟨zm_G_Fr h hu l0, hy, h.2.1, h.2.2.1 (by omega), t, ht, h.2.2.2.1⟩
/-- a field of the reading's own -/
theorem zm_Fr_u {I0 I : zI} {m0 l0 k : Nat} (h : zm_Fr I0 I m0 l0) (hk : k = 11 ∨ k = 12 ∨ k = 13 ∨ k = 14 ∨ k = 37 ∨ k = 44 ∨ k = 48) (v : Int32) : zm_Fr I0 (zw_u I 148 k v) m0 l0 := ⟨fun a b1 b2 => by rw [zw_u_off _ _ _ b1]; exact h.1 a b1 b2, fun y b1 b2 b3 b4 b5 b6 b7 => by rw [zE_u2 _ _ (by omega)]; exact h.2.1 y b1 b2 b3 b4 b5 b6 b7, fun i hi => by rw [zw_u_off _ _ _ (by decide), zw_u_off _ _ _ (by decide)]; exact h.2.2.1 i hi, fun a i b1 b2 hi => by rw [zw_u_off _ _ _ (by omega)]; exact h.2.2.2 a i b1 b2 hi⟩
theorem zm_D.on {sw : Bool} {T : Nat → Nat} {n : Nat} {I0 I : zI} {m0 l0 : Nat} {y : Nat × Nat} (h : zm_D T n I0 I m0 l0 y) : ∃ I2, f_X11_goesOn 148 I (zE_R sw) = some I2 ∧ zm_D T n I0 I2 m0 l0 y := by
  obtain ⟨a1, a2, a3, a4, t, a5, a6⟩ := id h
  by_cases c : t < 500
  · exact ⟨_, zp_on a6 c, zm_Fr_u a1 (Or.inl rfl) _, a2, by rw [zE_u2 _ _ (by omega)]; exact a3, by rw [zE_u2 _ _ (by omega)]; exact a4, t + 1, by omega, zE_u1 _ _ _ _⟩
  · have e : t = 500 := by omega
    rw [e] at a6
    exact ⟨I, zp_onE a6 (zp_failF a2 a3 2), h⟩
theorem zm_D.expr {sw : Bool} {T : Nat → Nat} {n : Nat} {I0 I : zI} {m0 l0 : Nat} {y : Nat × Nat} (h : zm_D T n I0 I m0 l0 y) : ∃ I2, f_X11_expression 148 I (zE_R sw) = some I2 ∧ zm_D T n I0 I2 m0 l0 y := by
  obtain ⟨a1, a2, a3, a4, t, a5, a6⟩ := id h
  exact ⟨_, zm_exprF h.ne.1, zm_Fr_u a1 (by omega) _, a2, by rw [zE_u2 _ _ (by omega)]; exact a3, by rw [zE_u2 _ _ (by omega)]; exact a4, t, a5, by rw [zE_u2 _ _ (by omega)]; exact a6⟩
theorem zm_D.lit85 {sw : Bool} {T : Nat → Nat} {n : Nat} {I0 I : zI} {m0 l0 : Nat} {y : Nat × Nat} (h : zm_D T n I0 I m0 l0 y) (v1 v2 v3 v4 : Int32) : ∃ I2, j_X11_literal_85 148 v1 v2 v3 v4 I (zE_R sw) = some I2 ∧ zm_D T n I0 I2 m0 l0 y := by
  obtain ⟨I1, p1, p2⟩ := h.on (sw := sw)
  obtain ⟨I2, q1, q2⟩ := p2.expr (sw := sw)
  refine ⟨I2, ?_, q2⟩
  unfold j_X11_literal_85
  rw [zp_g148.1, zw_g_t, p1, Option.bind_some, zw_let_e, q1, Option.bind_some, if_neg q2.ne.2]
theorem zm_D.lit60 {sw : Bool} {T : Nat → Nat} {n : Nat} {I0 I : zI} {m0 l0 : Nat} {y : Nat × Nat} (h : zm_D T n I0 I m0 l0 y) (v1 v2 v3 v4 : Int32) : ∃ I2, j_X11_literal_60 148 v1 v2 v3 v4 I (zE_R sw) = some I2 ∧ zm_D T n I0 I2 m0 l0 y := by
  unfold j_X11_literal_60
  rw [zp_g148.1, zw_g_t, if_pos h.ne.1]
  exact h.lit85 v1 v2 v3 v4
theorem zm_cmp : ∀ k, k ≤ 35 → (14 ≤ k ∧ k ≤ 17 → nI (zt_mk k) - 11 = nI (zp_so k) ∧ ¬ nI (zp_so k) < 0 ∧ nI (zp_so k) ≤ 3) ∧ (¬ (14 ≤ k ∧ k ≤ 17) → nI (zt_mk k) - 11 < 0 ∨ (¬ nI (zt_mk k) - 11 < 0 ∧ ¬ nI (zt_mk k) - 11 ≤ 3)) := by decide +kernel
/-- the model between two literals: at token t, with m codes and l literals -/
def zm_PL (I0 I : zI) (m0 l0 t m l : Nat) : Prop := zm_Fr I0 I m0 l0 ∧ I 148 13 = 0 ∧ I 148 11 = nI t ∧ I 148 12 = 0 ∧ I 148 44 = nI m ∧ I 148 37 = nI l
