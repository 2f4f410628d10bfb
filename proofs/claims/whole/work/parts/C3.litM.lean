/-! ===== literals, as the model reads them: its steps outside of expressions ===== -/
theorem zE_uu {α : Type} (f : Nat → Nat → α) (o k : Nat) (v w : α) : zw_u (zw_u f o k v) o k w = zw_u f o k w := by
  funext a b
  unfold zw_u
  by_cases c : a = o ∧ b = k
  · rw [if_pos c, if_pos c]
  · rw [if_neg c, if_neg c, if_neg c]
/-- an E, from the heap as it stands -/
theorem zm_expr0 {sw : Bool} {T : Nat → Nat} {n : Nat} {I : zI} {J : zJ} {m0 t : Nat} (hY : zp_Y T n I J) (h13 : I 148 13 = 0) (h11 : I 148 11 = nI t) (h12 : I 148 12 = 0) (h44 : I 148 44 = nI m0) (hm0 : m0 ≤ 520 + t) (ht : t ≤ 500) (hg : zt_go T n t) : ∃ I2, f_X11_expression 148 I (zE_R sw) = some I2 ∧ zm_R T n I I2 m0 t (zp_S (zt_K T n) (zp_V T n) 8 0 t) := by
  obtain ⟨I1, e1⟩ : ∃ I1, I1 = zw_u I 148 48 0 := ⟨_, rfl⟩
  have f : ∀ y, y ≠ 48 → I1 148 y = I 148 y := fun y hy => by rw [e1, zE_u2 _ _ (by omega)]
  have g : ∀ a, a ≠ 148 → I1 a = I a := fun a ha => by rw [e1, zw_u_off _ _ _ ha]
  have h1 : zm_G T n I I1 m0 t 0 [] [] (0, 0) := ⟨fun a b1 _ _ _ => g a b1, (f 13 (by decide)).trans h13, fun q => absurd rfl q, (f 11 (by decide)).trans h11, (f 12 (by decide)).trans h12, (f 44 (by decide)).trans h44, by rw [e1, zE_u1]; rfl, trivial, fun y _ _ _ _ _ b6 => f y b6, trivial, fun i _ => by rw [g 179 (by decide), g 180 (by decide)]; exact ⟨rfl, rfl⟩⟩
  obtain ⟨I2, q1, q2⟩ := zm_expression (sw := sw) hY h1 hm0 ht hg
  refine ⟨I2, ?_, q2⟩
  rw [← q1, e1]
  unfold f_X11_expression
  rw [zE_uu]
/-- behind a fault -/
theorem zm_exprF {sw : Bool} {I : zI} (h : ¬ I 148 13 = 0) : f_X11_expression 148 I (zE_R sw) = some (zw_u I 148 48 0) := by
  have e : ∀ x : Int32, zw_it (s_X11_expression_12 148 x (zE_R sw)) 1000000 (1, zw_u I 148 48 0) = some (.inl (zw_u I 148 48 0)) := by
    intro x
    refine zE_it0 999999 ?_
    unfold s_X11_expression_12
    dsimp only
    rw [if_neg zE_10, zp_g148.1, zw_g_t, if_pos (show ¬ zw_u I 148 48 0 148 13 = 0 by rw [zE_u2 _ _ (by omega)]; exact h)]
  unfold f_X11_expression
  rw [zp_g148.1, zw_g_t, zw_let_e, zw_let_e, e, Option.bind_some]
/-- the model has only gone on, to token t, or noted a fault -/
def zm_T (T : Nat → Nat) (n : Nat) (I0 I : zI) (t : Nat) (φ : Nat × Nat) : Prop := (∀ a, a ≠ 148 → I a = I0 a) ∧ I 148 13 = nI φ.1 ∧ (φ.1 ≠ 0 → I 148 14 = nI (zt_a T n φ.2)) ∧ I 148 11 = nI t ∧ ∀ y, y ≠ 11 → y ≠ 13 → y ≠ 14 → I 148 y = I0 148 y
theorem zm_T_Y {T : Nat → Nat} {n : Nat} {I0 I : zI} {J : zJ} {t : Nat} {φ : Nat × Nat} (hY : zp_Y T n I0 J) (h : zm_T T n I0 I t φ) : zp_Y T n I J := zp_Y_tr hY (h.1 151 (by decide)) (h.1 152 (by decide)) (h.1 153 (by decide)) rfl
theorem zm_T_on {sw : Bool} {T : Nat → Nat} {n : Nat} {I0 I : zI} {t : Nat} {φ : Nat × Nat} (h : zm_T T n I0 I t φ) (ht : t < 500) : ∃ I2, f_X11_goesOn 148 I (zE_R sw) = some I2 ∧ zm_T T n I0 I2 (t + 1) φ := by
  obtain ⟨a1, a2, a3, a4, a5⟩ := h
  exact ⟨_, zp_on a4 ht, fun a ha => by rw [zw_u_off _ _ _ ha]; exact a1 a ha, by rw [zE_u2 _ _ (by omega)]; exact a2, fun q => by rw [zE_u2 _ _ (by omega)]; exact a3 q, zE_u1 _ _ _ _, fun y b1 b2 b3 => by rw [zE_u2 _ _ (by omega)]; exact a5 y b1 b2 b3⟩
theorem zm_T_fail {sw : Bool} {T : Nat → Nat} {n : Nat} {I0 I : zI} {J : zJ} {t e : Nat} (hY : zp_Y T n I0 J) (h : zm_T T n I0 I t (0, e)) (ht : t ≤ 500) (hg : zt_go T n t) (f : Nat) : ∃ I2, f_X11_fail 148 (nI f) I (zE_R sw) = some I2 ∧ zm_T T n I0 I2 t (f, t) := by
  obtain ⟨a1, a2, a3, a4, a5⟩ := id h
  refine ⟨_, zp_fail (zm_T_Y hY h) ht hg a2 a4 (nI f), fun a ha => by rw [zw_u_off _ _ _ ha, zw_u_off _ _ _ ha]; exact a1 a ha, ?_, fun q => zE_u1 _ _ _ _, ?_, fun y b1 b2 b3 => ?_⟩
  · rw [zE_u2 _ _ (by omega), zE_u1]
  · rw [zE_u2 _ _ (by omega), zE_u2 _ _ (by omega)]; exact a4
  · rw [zE_u2 _ _ (by omega), zE_u2 _ _ (by omega)]; exact a5 y b1 b2 b3
theorem zm_T_end {sw : Bool} {T : Nat → Nat} {n : Nat} {I0 I : zI} {J : zJ} {t e : Nat} (hY : zp_Y T n I0 J) (h : zm_T T n I0 I t (0, e)) (ht : t = 500) (hg : zt_go T n t) : ∃ I2, f_X11_goesOn 148 I (zE_R sw) = some I2 ∧ zm_T T n I0 I2 t (2, t) := by
  obtain ⟨I2, q1, q2⟩ := zm_T_fail (sw := sw) hY h (by omega) hg 2
  subst ht
  exact ⟨I2, zp_onE h.2.2.2.1 q1, q2⟩
/-- the 'not's before a literal -/
theorem zm_nots {sw : Bool} {T : Nat → Nat} {n : Nat} {I0 : zI} {J : zJ} {v1 : Int32} (hY : zp_Y T n I0 J) : ∀ (f N t : Nat) (I : zI) (q : Bool), 501 - t ≤ f → f + 1 < N → zm_T T n I0 I t (0, 0) → t ≤ 500 → zt_go T n t → ∃ v I2, zw_it (s_X11_literal_2 148 v1 (zE_R sw)) N (zr_b q, I) = some (v, I2) ∧ match zp_N (zt_K T n) f t q with
    | .inl x => v = zr_b x.2 ∧ zm_T T n I0 I2 x.1 (0, 0)
    | .inr y => ∃ t2, t2 ≤ 500 ∧ zm_T T n I0 I2 t2 y
  | f, 0, t, I, q, hf, hN, h, ht, hg => absurd hN (Nat.not_lt_zero _)
  | 0, N + 1, t, I, q, hf, hN, h, ht, hg => by omega
  | f + 1, N + 1, t, I, q, hf, hN, h, ht, hg => by
    have hi := zp_is (sw := sw) (kc := 27) (kv := 29) (zm_T_Y hY h) ht hg h.2.1 h.2.2.2.1 (by decide) rfl
    have hd : s_X11_literal_2 148 v1 (zE_R sw) (zr_b q, I) = if zr_b (decide (zt_K T n t = 27)) = 0 then some (.inr (zr_b q, I)) else (f_X11_goesOn 148 I (zE_R sw)).bind fun q6 => some (.inl (zr_b (!q), q6)) := by
      unfold s_X11_literal_2 j_X11_literal_20_2
      dsimp only
      rw [zp_g148.1, zw_g_t, hi, Option.bind_some]
      simp only [zw_g_t]
      cases q <;> rfl
    unfold zp_N
    by_cases c : zt_K T n t = 27
    · rw [if_neg (show ¬ zr_b (decide (zt_K T n t = 27)) = 0 by rw [decide_eq_true c]; decide)] at hd
      rw [if_pos c]
      by_cases c2 : t < 500
      · rw [if_pos c2]
        obtain ⟨I2, o1, o2⟩ := zm_T_on (sw := sw) h c2
        rw [o1, Option.bind_some] at hd
        obtain ⟨v, I3, r1, r2⟩ := zm_nots hY f N (t + 1) I2 (!q) (by omega) (by omega) o2 (by omega) (zp_go hg (by omega) (by omega))
        exact ⟨v, I3, (zE_it1 N hd).trans r1, r2⟩
      · rw [if_neg c2]
        obtain ⟨I2, o1, o2⟩ := zm_T_end (sw := sw) hY h (by omega) hg
        rw [o1, Option.bind_some] at hd
        refine ⟨zr_b (!q), I2, ?_, t, ht, o2⟩
        rw [zE_it1 N hd, show N = (N - 1) + 1 by omega]
        refine zE_it0 (N - 1) ?_
        have n13 : ¬ I2 148 13 = 0 := by rw [o2.2.1]; show ¬ nI 2 = 0; decide
        unfold s_X11_literal_2
        dsimp only
        rw [zp_g148.1, zw_g_t, zp_isF n13, Option.bind_some, if_pos rfl]
    · rw [if_pos (show zr_b (decide (zt_K T n t = 27)) = 0 by rw [decide_eq_false c]; rfl)] at hd
      rw [if_neg c]
      exact ⟨zr_b q, I, zE_it0 N hd, rfl, h⟩
