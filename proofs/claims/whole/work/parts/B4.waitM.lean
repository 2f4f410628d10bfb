/-! ===== the model inside an expression: its state, its steps ===== -/
/-- at token t, o open; the waiting signs W (the last one first), the code c added since m0; a fault φ (number, token), or none (0, _) -/
def zm_G (T : Nat → Nat) (n : Nat) (I0 I : zI) (m0 t o : Nat) (W : List Nat) (c : List zr_C) (φ : Nat × Nat) : Prop := (∀ a, a ≠ 148 → a ≠ 179 → a ≠ 180 → a ≠ 181 → I a = I0 a) ∧ I 148 13 = nI φ.1 ∧ (φ.1 ≠ 0 → I 148 14 = nI (zt_a T n φ.2)) ∧ I 148 11 = nI t ∧ I 148 12 = nI o ∧ I 148 44 = nI (m0 + c.length) ∧ I 148 48 = nI W.length ∧ zr_st (I 181) (W.map nI) ∧ (∀ y, y ≠ 11 → y ≠ 12 → y ≠ 13 → y ≠ 14 → y ≠ 44 → y ≠ 48 → I 148 y = I0 148 y) ∧ zr_sg (I 179) (I 180) m0 c ∧ ∀ i, (i < m0 ∨ m0 + c.length ≤ i) → I 179 i = I0 179 i ∧ I 180 i = I0 180 i
/-- a field of the model's own object that is no part of the code or of the waiting signs -/
theorem zm_G_u {T : Nat → Nat} {n : Nat} {I0 I : zI} {m0 t o : Nat} {W : List Nat} {c : List zr_C} {φ : Nat × Nat} (h : zm_G T n I0 I m0 t o W c φ) {I2 : zI} {t2 o2 : Nat} {φ2 : Nat × Nat} (h1 : ∀ a, a ≠ 148 → I2 a = I a) (h13 : I2 148 13 = nI φ2.1) (h14 : φ2.1 ≠ 0 → I2 148 14 = nI (zt_a T n φ2.2)) (h11 : I2 148 11 = nI t2) (h12 : I2 148 12 = nI o2) (h44 : I2 148 44 = I 148 44) (h48 : I2 148 48 = I 148 48) (hy : ∀ y, y ≠ 11 → y ≠ 12 → y ≠ 13 → y ≠ 14 → y ≠ 44 → y ≠ 48 → I2 148 y = I 148 y) : zm_G T n I0 I2 m0 t2 o2 W c φ2 := by
  obtain ⟨a1, a2, a3, a4, a5, a6, a7, a8, a9, a10, a11⟩ := h
  refine ⟨fun a b1 b2 b3 b4 => (h1 a b1).trans (a1 a b1 b2 b3 b4), h13, h14, h11, h12, h44.trans a6, h48.trans a7, ?_, fun y b1 b2 b3 b4 b5 b6 => (hy y b1 b2 b3 b4 b5 b6).trans (a9 y b1 b2 b3 b4 b5 b6), ?_, ?_⟩
  · rw [h1 181 (by decide)]; exact a8
  · rw [h1 179 (by decide), h1 180 (by decide)]; exact a10
  · rw [h1 179 (by decide), h1 180 (by decide)]; exact a11
theorem zm_G_Y {T : Nat → Nat} {n : Nat} {I0 I : zI} {J : zJ} {m0 t o : Nat} {W : List Nat} {c : List zr_C} {φ : Nat × Nat} (hY : zp_Y T n I0 J) (h : zm_G T n I0 I m0 t o W c φ) : zp_Y T n I J := zp_Y_tr hY (h.1 151 (by decide) (by decide) (by decide) (by decide)) (h.1 152 (by decide) (by decide) (by decide) (by decide)) (h.1 153 (by decide) (by decide) (by decide) (by decide)) rfl
theorem zm_emit {sw : Bool} {T : Nat → Nat} {n : Nat} {I0 I : zI} {m0 t o : Nat} {W : List Nat} {c : List zr_C} {φ : Nat × Nat} (h : zm_G T n I0 I m0 t o W c φ) (hm : m0 + c.length < 1040) (k v : Nat) : ∃ I2, f_X11_emit 148 (nI k) (nI v) I (zE_R sw) = some I2 ∧ zm_G T n I0 I2 m0 t o W (c ++ [(k, v)]) φ := by
  obtain ⟨a1, a2, a3, a4, a5, a6, a7, a8, a9, a10, a11⟩ := h
  have f : ∀ y, y ≠ 44 → zw_u (zw_u (zw_u I 179 (m0 + c.length) (nI k)) 180 (m0 + c.length) (nI v)) 148 44 (nI (m0 + c.length + 1)) 148 y = I 148 y := fun y hy => by rw [zE_u2 _ _ (by omega), zE_u2 _ _ (by omega), zE_u2 _ _ (by omega)]
  refine ⟨_, zp_emit a6 hm (nI k) (nI v), fun a b1 b2 b3 b4 => by rw [zw_u_off _ _ _ b1, zw_u_off _ _ _ b3, zw_u_off _ _ _ b2, a1 a b1 b2 b3 b4], by rw [f 13 (by decide)]; exact a2, fun q => by rw [f 14 (by decide)]; exact a3 q, by rw [f 11 (by decide)]; exact a4, by rw [f 12 (by decide)]; exact a5, by rw [zE_u1, List.length_append]; rfl, by rw [f 48 (by decide)]; exact a7, ?_, fun y b1 b2 b3 b4 b5 b6 => by rw [f y b5]; exact a9 y b1 b2 b3 b4 b5 b6, ?_, fun i hi => ?_⟩
  · rw [zw_u_off _ _ _ (by decide), zw_u_off _ _ _ (by decide), zw_u_off _ _ _ (by decide)]; exact a8
  · rw [zr_sg_app]
    refine ⟨zr_sg_tr a10 (fun i q1 q2 => ⟨?_, ?_⟩), ?_, ?_, trivial⟩
    · rw [zw_u_off _ _ _ (by decide), zw_u_off _ _ _ (by decide), zE_u2 _ _ (by omega)]
    · rw [zw_u_off _ _ _ (by decide), zE_u2 _ _ (by omega), zw_u_off _ _ _ (by decide)]
    · rw [zw_u_off _ _ _ (by decide), zw_u_off _ _ _ (by decide), zE_u1]
    · rw [zw_u_off _ _ _ (by decide), zE_u1]
  · have hll : (c ++ [(k, v)]).length = c.length + 1 := by rw [List.length_append]; rfl
    rw [hll] at hi
    exact ⟨by rw [zw_u_off _ _ _ (by decide), zw_u_off _ _ _ (by decide), zE_u2 _ _ (by omega)]; exact (a11 i (by omega)).1, by rw [zw_u_off _ _ _ (by decide), zE_u2 _ _ (by omega), zw_u_off _ _ _ (by decide)]; exact (a11 i (by omega)).2⟩
/-- a sign waits -/
theorem zm_push {T : Nat → Nat} {n : Nat} {I0 I : zI} {m0 t o : Nat} {W : List Nat} {c : List zr_C} {φ : Nat × Nat} (h : zm_G T n I0 I m0 t o W c φ) (w : Nat) : zm_G T n I0 (zw_u (zw_u I 181 W.length (nI w)) 148 48 (nI (W.length + 1))) m0 t o (w :: W) c φ := by
  obtain ⟨a1, a2, a3, a4, a5, a6, a7, a8, a9, a10, a11⟩ := h
  have f : ∀ y, y ≠ 48 → zw_u (zw_u I 181 W.length (nI w)) 148 48 (nI (W.length + 1)) 148 y = I 148 y := fun y hy => by rw [zE_u2 _ _ (by omega), zE_u2 _ _ (by omega)]
  refine ⟨fun a b1 b2 b3 b4 => by rw [zw_u_off _ _ _ b1, zw_u_off _ _ _ b4, a1 a b1 b2 b3 b4], by rw [f 13 (by decide)]; exact a2, fun q => by rw [f 14 (by decide)]; exact a3 q, by rw [f 11 (by decide)]; exact a4, by rw [f 12 (by decide)]; exact a5, by rw [f 44 (by decide)]; exact a6, zE_u1 _ _ _ _, ?_, fun y b1 b2 b3 b4 b5 b6 => by rw [f y b6]; exact a9 y b1 b2 b3 b4 b5 b6, ?_, ?_⟩
  · rw [zw_u_off _ _ _ (by decide)]
    have h3 : zr_st (zw_u I 181 W.length (nI w) 181) (W.map nI) := zr_st_u a8 (fun j hj => zE_u2 I (nI w) (fun r => by rw [List.length_map] at hj; omega))
    have h4 : zw_u I 181 W.length (nI w) 181 (W.map nI).length = nI w := by rw [List.length_map]; exact zE_u1 I 181 W.length (nI w)
    show zw_u I 181 W.length (nI w) 181 (W.map nI).length = nI w ∧ zr_st (zw_u I 181 W.length (nI w) 181) (W.map nI)
    exact ⟨h4, h3⟩
  · rw [zw_u_off _ _ _ (by decide), zw_u_off _ _ _ (by decide), zw_u_off _ _ _ (by decide), zw_u_off _ _ _ (by decide)]; exact a10
  · rw [zw_u_off _ _ _ (by decide), zw_u_off _ _ _ (by decide), zw_u_off _ _ _ (by decide), zw_u_off _ _ _ (by decide)]; exact a11
/-- and no longer -/
theorem zm_pop {T : Nat → Nat} {n : Nat} {I0 I : zI} {m0 t o w : Nat} {W : List Nat} {c : List zr_C} {φ : Nat × Nat} (h : zm_G T n I0 I m0 t o (w :: W) c φ) : zm_G T n I0 (zw_u I 148 48 (nI W.length)) m0 t o W c φ := by
  obtain ⟨a1, a2, a3, a4, a5, a6, a7, a8, a9, a10, a11⟩ := h
  have f : ∀ y, y ≠ 48 → zw_u I 148 48 (nI W.length) 148 y = I 148 y := fun y hy => by rw [zE_u2 _ _ (by omega)]
  refine ⟨fun a b1 b2 b3 b4 => by rw [zw_u_off _ _ _ b1, a1 a b1 b2 b3 b4], by rw [f 13 (by decide)]; exact a2, fun q => by rw [f 14 (by decide)]; exact a3 q, by rw [f 11 (by decide)]; exact a4, by rw [f 12 (by decide)]; exact a5, by rw [f 44 (by decide)]; exact a6, zE_u1 _ _ _ _, ?_, fun y b1 b2 b3 b4 b5 b6 => by rw [f y b6]; exact a9 y b1 b2 b3 b4 b5 b6, ?_, ?_⟩
  · rw [zw_u_off _ _ _ (by decide)]; exact a8.2
  · rw [zw_u_off _ _ _ (by decide), zw_u_off _ _ _ (by decide)]; exact a10
  · rw [zw_u_off _ _ _ (by decide), zw_u_off _ _ _ (by decide)]; exact a11
theorem zm_top {T : Nat → Nat} {n : Nat} {I0 I : zI} {m0 t o w : Nat} {W : List Nat} {c : List zr_C} {φ : Nat × Nat} (h : zm_G T n I0 I m0 t o (w :: W) c φ) : I 181 W.length = nI w := by
  have := h.2.2.2.2.2.2.2.1.1
  rwa [List.length_map] at this
/-- go on: to the next token -/
theorem zm_on {sw : Bool} {T : Nat → Nat} {n : Nat} {I0 I : zI} {m0 t o : Nat} {W : List Nat} {c : List zr_C} {φ : Nat × Nat} (h : zm_G T n I0 I m0 t o W c φ) (ht : t < 500) : ∃ I2, f_X11_goesOn 148 I (zE_R sw) = some I2 ∧ zm_G T n I0 I2 m0 (t + 1) o W c φ := by
  obtain ⟨a1, a2, a3, a4, a5, -⟩ := id h
  refine ⟨_, zp_on a4 ht, zm_G_u h (fun a ha => zw_u_off _ _ _ ha) ?_ (fun q => ?_) (zE_u1 _ _ _ _) ?_ (zE_u2 _ _ (by omega)) (zE_u2 _ _ (by omega)) (fun y b1 _ _ _ _ _ => zE_u2 _ _ (by omega))⟩
  · rw [zE_u2 _ _ (by omega)]; exact a2
  · rw [zE_u2 _ _ (by omega)]; exact a3 q
  · rw [zE_u2 _ _ (by omega)]; exact a5
theorem zm_fail {sw : Bool} {T : Nat → Nat} {n : Nat} {I0 I : zI} {J : zJ} {m0 t o : Nat} {W : List Nat} {c : List zr_C} {e : Nat} (hY : zp_Y T n I0 J) (h : zm_G T n I0 I m0 t o W c (0, e)) (ht : t ≤ 500) (hg : zt_go T n t) (f : Nat) : ∃ I2, f_X11_fail 148 (nI f) I (zE_R sw) = some I2 ∧ zm_G T n I0 I2 m0 t o W c (f, t) := by
  obtain ⟨a1, a2, a3, a4, a5, -⟩ := id h
  refine ⟨_, zp_fail (zm_G_Y hY h) ht hg a2 a4 (nI f), zm_G_u h (fun a ha => by rw [zw_u_off _ _ _ ha, zw_u_off _ _ _ ha]) ?_ (fun q => zE_u1 _ _ _ _) ?_ ?_ ?_ ?_ (fun y b1 b2 b3 b4 _ _ => by rw [zE_u2 _ _ (by omega), zE_u2 _ _ (by omega)])⟩
  · rw [zE_u2 _ _ (by omega), zE_u1]
  · rw [zE_u2 _ _ (by omega), zE_u2 _ _ (by omega)]; exact a4
  · rw [zE_u2 _ _ (by omega), zE_u2 _ _ (by omega)]; exact a5
  · rw [zE_u2 _ _ (by omega), zE_u2 _ _ (by omega)]
  · rw [zE_u2 _ _ (by omega), zE_u2 _ _ (by omega)]
/-- go on, whatever stands there -/
theorem zm_onX {sw : Bool} {T : Nat → Nat} {n : Nat} {I0 I : zI} {J : zJ} {m0 t o : Nat} {W : List Nat} {c : List zr_C} {φ : Nat × Nat} (hY : zp_Y T n I0 J) (h : zm_G T n I0 I m0 t o W c φ) (ht : t ≤ 500) (hg : φ.1 = 0 → zt_go T n t) (hf : φ.1 = 0 ∨ φ.1 = 1 ∨ φ.1 = 2) : ∃ I2 t2, f_X11_goesOn 148 I (zE_R sw) = some I2 ∧ t2 ≤ 500 ∧ t ≤ t2 ∧ ((t < 500 ∧ t2 = t + 1 ∧ zm_G T n I0 I2 m0 t2 o W c φ) ∨ (t = 500 ∧ t2 = 500 ∧ φ.1 = 0 ∧ zm_G T n I0 I2 m0 500 o W c (2, 500)) ∨ (t = 500 ∧ t2 = 500 ∧ φ.1 ≠ 0 ∧ zm_G T n I0 I2 m0 500 o W c φ)) := by
  by_cases c1 : t < 500
  · obtain ⟨I2, q1, q2⟩ := zm_on (sw := sw) h c1
    exact ⟨I2, t + 1, q1, by omega, by omega, Or.inl ⟨c1, rfl, q2⟩⟩
  · have e : t = 500 := by omega
    subst e
    obtain ⟨f, e⟩ := φ
    dsimp only at hg hf
    rcases hf with rfl | hf
    · obtain ⟨I2, q1, q2⟩ := zm_fail (sw := sw) hY h ht (hg rfl) 2
      exact ⟨I2, 500, zp_onE h.2.2.2.1 q1, Nat.le_refl _, Nat.le_refl _, Or.inr (Or.inl ⟨rfl, rfl, rfl, q2⟩)⟩
    · exact ⟨I, 500, zp_onE h.2.2.2.1 (zp_failF hf h.2.1 2), Nat.le_refl _, Nat.le_refl _, Or.inr (Or.inr ⟨rfl, rfl, by show f ≠ 0; omega, h⟩)⟩
/-- which signs come out -/
def zm_wk (w : Nat) : Nat := if w = 8 then 2 else if w = 9 then 3 else if w = 10 then 4 else 5
def zm_st (s : Bool) (w : Nat) : Prop := w = 6 ∨ (s = true ∧ (w = 8 ∨ w = 9))
theorem zm_loopOut {sw : Bool} {T : Nat → Nat} {n : Nat} {I0 : zI} {m0 t o : Nat} {φ : Nat × Nat} (s : Bool) : ∀ (A B : List Nat) (c : List zr_C) (I : zI) (N : Nat), A.length < N → zm_G T n I0 I m0 t o (A ++ B) c φ → (A ++ B).length ≤ 60 → m0 + c.length + A.length ≤ 1040 → (∀ w, w ∈ A → (w = 8 ∨ w = 9 ∨ w = 10 ∨ w = 15) ∧ ¬ zm_st s w) → (∀ w B2, B = w :: B2 → w ≤ 40 ∧ zm_st s w) → ∃ I2, (zw_it (s_X11_comesOut_0 148 (zr_b s) (zE_R sw)) N I = some (.inl I2) ∨ zw_it (s_X11_comesOut_0 148 (zr_b s) (zE_R sw)) N I = some (.inr I2)) ∧ zm_G T n I0 I2 m0 t o B (c ++ A.map (fun w => (zm_wk w, 0))) φ
  | A, B, c, I, 0, hN, _, _, _, _, _ => absurd hN (Nat.not_lt_zero _)
  | [], B, c, I, N + 1, hN, h, hl, hm, hA, hB => by
    have h : zm_G T n I0 I m0 t o B c φ := h
    have g0 := zp_g148
    refine ⟨I, ?_, by rw [List.map_nil, List.append_nil]; exact h⟩
    match B, h, hl, hB with
    | [], h, _, _ =>
      refine Or.inl (zE_it0 N ?_)
      unfold s_X11_comesOut_0
      rw [g0.1, zw_g_t, if_pos (show I 148 48 ≤ 0 by rw [h.2.2.2.2.2.2.1]; decide)]
    | w :: B, h, hl, hB =>
      obtain ⟨w40, hs⟩ := hB w B rfl
      have hl : B.length + 1 ≤ 60 := hl
      have e48 : I 148 48 = nI (B.length + 1) := h.2.2.2.2.2.2.1
      refine Or.inr (zE_it0 N ?_)
      unfold s_X11_comesOut_0
      rw [g0.1, zw_g_t, if_neg (show ¬ I 148 48 ≤ 0 by rw [e48]; exact nI_nle (by omega) (by omega)), e48, nI_pred]
      simp only [zE_rM sw, g0.2.2.2.2.2.2, zE_sM, zw_g_t, zw_let_e, zE_in (show B.length < 64 by omega) (by decide), zE_cl (show B.length < 2 ^ 31 by omega), zm_top h]
      rcases hs with rfl | ⟨rfl, rfl | rfl⟩
      · rw [if_pos (show nI 6 = 6 from rfl)]
      · rw [if_neg (show ¬ nI 8 = 6 by decide), if_neg (show ¬ zr_b true = 0 by decide), if_pos (show nI 8 = 8 from rfl)]
      · rw [if_neg (show ¬ nI 9 = 6 by decide), if_neg (show ¬ zr_b true = 0 by decide), if_neg (show ¬ nI 9 = 8 by decide), if_neg (show ¬ ¬ nI 9 = 9 from fun r => r rfl)]
  | w :: A, B, c, I, N + 1, hN, h, hl, hm, hA, hB => by
    have h : zm_G T n I0 I m0 t o (w :: (A ++ B)) c φ := h
    have hl : (A ++ B).length + 1 ≤ 60 := hl
    have hN : A.length + 1 < N + 1 := hN
    have hm : m0 + c.length + (A.length + 1) ≤ 1040 := hm
    have g0 := zp_g148
    obtain ⟨hw, hns⟩ := hA w (List.mem_cons_self ..)
    have e48 : I 148 48 = nI ((A ++ B).length + 1) := h.2.2.2.2.2.2.1
    have hp := zm_pop h
    obtain ⟨I2, q1, q2⟩ := zm_emit (sw := sw) hp (by omega) (zm_wk w) 0
    have q1 : ∀ kv, kv = nI (zm_wk w) → f_X11_emit 148 kv 0 (zw_u I 148 48 (nI (A ++ B).length)) (zE_R sw) = some I2 := fun kv hk => by rw [hk]; exact q1
    have j42 : j_X11_comesOut_42_0 148 (zr_b s) (nI w) I (zE_R sw) = some (.inl I2) := by
      unfold j_X11_comesOut_42_0 j_X11_comesOut_84_0
      rw [g0.1, zw_g_t, e48, nI_pred, zw_let_e]
      rcases hw with rfl | rfl | rfl | rfl
      · rw [if_neg (show ¬ ¬ nI 8 = 8 from fun r => r rfl), zw_g_t, q1 2 rfl, Option.bind_some]
      · rw [if_pos (show ¬ nI 9 = 8 by decide), if_neg (show ¬ ¬ nI 9 = 9 from fun r => r rfl), zw_g_t, q1 3 rfl, Option.bind_some]
      · rw [if_pos (show ¬ nI 10 = 8 by decide), if_pos (show ¬ nI 10 = 9 by decide), if_neg (show ¬ ¬ nI 10 = 10 from fun r => r rfl), zw_g_t, q1 4 rfl, Option.bind_some]
      · rw [if_pos (show ¬ nI 15 = 8 by decide), if_pos (show ¬ nI 15 = 9 by decide), if_pos (show ¬ nI 15 = 10 by decide), zw_g_t, q1 5 rfl, Option.bind_some]
    have st : s_X11_comesOut_0 148 (zr_b s) (zE_R sw) I = some (.inl I2) := by
      unfold s_X11_comesOut_0
      rw [g0.1, zw_g_t, if_neg (show ¬ I 148 48 ≤ 0 by rw [e48]; exact nI_nle (by omega) (by omega)), e48, nI_pred]
      simp only [zE_rM sw, g0.2.2.2.2.2.2, zE_sM, zw_g_t, zw_let_e, zE_in (show (A ++ B).length < 64 by omega) (by decide), zE_cl (show (A ++ B).length < 2 ^ 31 by omega), zm_top h, j42]
      have n6 : ¬ nI w = 6 := by rcases hw with rfl | rfl | rfl | rfl <;> decide
      rw [if_neg n6]
      cases s
      · rw [if_pos (show zr_b false = 0 from rfl)]
      · rw [if_neg (show ¬ zr_b true = 0 by decide)]
        have n89 : w ≠ 8 ∧ w ≠ 9 := ⟨fun q => hns (Or.inr ⟨rfl, Or.inl q⟩), fun q => hns (Or.inr ⟨rfl, Or.inr q⟩)⟩
        rw [if_neg (show ¬ nI w = (8 : Int32) from zr_ne (b := 8) n89.1 (by omega) (by decide)), if_pos (show ¬ nI w = (9 : Int32) from zr_ne (b := 9) n89.2 (by omega) (by decide))]
    obtain ⟨I3, r1, r2⟩ := zm_loopOut (sw := sw) s A B (c ++ [(zm_wk w, 0)]) I2 N (by omega) q2 (by omega) (by rw [List.length_append]; show m0 + (c.length + 1) + A.length ≤ 1040; omega) (fun x hx => hA x (List.mem_cons_of_mem _ hx)) hB
    refine ⟨I3, ?_, ?_⟩
    · rcases r1 with r1 | r1
      · exact Or.inl ((zE_it1 N st).trans r1)
      · exact Or.inr ((zE_it1 N st).trans r1)
    · rw [List.append_assoc] at r2
      exact r2
theorem zm_comesOut {sw : Bool} {T : Nat → Nat} {n : Nat} {I0 I : zI} {m0 t o : Nat} {φ : Nat × Nat} {sv : Int32} (s : Bool) (A B : List Nat) (c : List zr_C) (es : sv = zr_b s) (h : zm_G T n I0 I m0 t o (A ++ B) c φ) (hl : (A ++ B).length ≤ 60) (hm : m0 + c.length + A.length ≤ 1040) (hA : ∀ w, w ∈ A → (w = 8 ∨ w = 9 ∨ w = 10 ∨ w = 15) ∧ ¬ zm_st s w) (hB : ∀ w B2, B = w :: B2 → w ≤ 40 ∧ zm_st s w) : ∃ I2, f_X11_comesOut 148 sv I (zE_R sw) = some I2 ∧ zm_G T n I0 I2 m0 t o B (c ++ A.map (fun w => (zm_wk w, 0))) φ := by
  subst es
  have g0 := zp_g148
  match A, h, hl, hm, hA with
  | [], h, hl, hm, hA =>
    have h : zm_G T n I0 I m0 t o B c φ := h
    refine ⟨I, ?_, by rw [List.map_nil, List.append_nil]; exact h⟩
    match B, h, hl, hB with
    | [], h, _, _ =>
      unfold f_X11_comesOut
      rw [g0.1, zw_g_t, if_pos (show I 148 48 ≤ 0 by rw [h.2.2.2.2.2.2.1]; decide)]
    | w :: B, h, hl, hB =>
      obtain ⟨w40, hs⟩ := hB w B rfl
      have hl : B.length + 1 ≤ 60 := hl
      have e48 : I 148 48 = nI (B.length + 1) := h.2.2.2.2.2.2.1
      unfold f_X11_comesOut
      rw [g0.1, zw_g_t, if_neg (show ¬ I 148 48 ≤ 0 by rw [e48]; exact nI_nle (by omega) (by omega)), e48, nI_pred]
      simp only [zE_rM sw, g0.2.2.2.2.2.2, zE_sM, zw_g_t, zw_let_e, zE_in (show B.length < 64 by omega) (by decide), zE_cl (show B.length < 2 ^ 31 by omega), zm_top h]
      rcases hs with rfl | ⟨rfl, rfl | rfl⟩
      · rw [if_pos (show nI 6 = 6 from rfl)]
      · rw [if_neg (show ¬ nI 8 = 6 by decide), if_neg (show ¬ zr_b true = 0 by decide), if_pos (show nI 8 = 8 from rfl)]
      · rw [if_neg (show ¬ nI 9 = 6 by decide), if_neg (show ¬ zr_b true = 0 by decide), if_neg (show ¬ nI 9 = 8 by decide), if_neg (show ¬ ¬ nI 9 = 9 from fun r => r rfl)]
  | w :: A, h, hl, hm, hA =>
    have h : zm_G T n I0 I m0 t o (w :: (A ++ B)) c φ := h
    have hl : (A ++ B).length + 1 ≤ 60 := hl
    have la : A.length ≤ 60 := by rw [List.length_append] at hl; omega
    have hm : m0 + c.length + (A.length + 1) ≤ 1040 := hm
    obtain ⟨hw, hns⟩ := hA w (List.mem_cons_self ..)
    have e48 : I 148 48 = nI ((A ++ B).length + 1) := h.2.2.2.2.2.2.1
    have hp := zm_pop h
    obtain ⟨I2, q1, q2⟩ := zm_emit (sw := sw) hp (by omega) (zm_wk w) 0
    have q1 : ∀ kv, kv = nI (zm_wk w) → f_X11_emit 148 kv 0 (zw_u I 148 48 (nI (A ++ B).length)) (zE_R sw) = some I2 := fun kv hk => by rw [hk]; exact q1
    obtain ⟨I3, r1, r2⟩ := zm_loopOut (sw := sw) s A B (c ++ [(zm_wk w, 0)]) I2 1000000 (by omega) q2 (by omega) (by rw [List.length_append]; show m0 + (c.length + 1) + A.length ≤ 1040; omega) (fun x hx => hA x (List.mem_cons_of_mem _ hx)) hB
    refine ⟨I3, ?_, by rw [List.append_assoc] at r2; exact r2⟩
    have j84 : ∀ kv, kv = nI (zm_wk w) → j_X11_comesOut_84 148 (zr_b s) 148 kv (zw_u I 148 48 (nI (A ++ B).length)) (zE_R sw) = some I3 := by
      intro kv hk
      unfold j_X11_comesOut_84
      rw [g0.1, zw_g_t, q1 kv hk, Option.bind_some]
      rcases r1 with r1 | r1
      · rw [r1, Option.bind_some]
      · rw [r1, Option.bind_some]
    have j42 : j_X11_comesOut_42 148 (zr_b s) (nI w) I (zE_R sw) = some I3 := by
      unfold j_X11_comesOut_42
      rw [g0.1, zw_g_t, e48, nI_pred, zw_let_e]
      rcases hw with rfl | rfl | rfl | rfl
      · rw [if_neg (show ¬ ¬ nI 8 = 8 from fun r => r rfl), j84 2 rfl]
      · rw [if_pos (show ¬ nI 9 = 8 by decide), if_neg (show ¬ ¬ nI 9 = 9 from fun r => r rfl), j84 3 rfl]
      · rw [if_pos (show ¬ nI 10 = 8 by decide), if_pos (show ¬ nI 10 = 9 by decide), if_neg (show ¬ ¬ nI 10 = 10 from fun r => r rfl), j84 4 rfl]
      · rw [if_pos (show ¬ nI 15 = 8 by decide), if_pos (show ¬ nI 15 = 9 by decide), if_pos (show ¬ nI 15 = 10 by decide), j84 5 rfl]
    unfold f_X11_comesOut
    rw [g0.1, zw_g_t, if_neg (show ¬ I 148 48 ≤ 0 by rw [e48]; exact nI_nle (by omega) (by omega)), e48, nI_pred]
    simp only [zE_rM sw, g0.2.2.2.2.2.2, zE_sM, zw_g_t, zw_let_e, zE_in (show (A ++ B).length < 64 by omega) (by decide), zE_cl (show (A ++ B).length < 2 ^ 31 by omega), zm_top h, j42]
    have n6 : ¬ nI w = 6 := by rcases hw with rfl | rfl | rfl | rfl <;> decide
    rw [if_neg n6]
    cases s
    · rw [if_pos (show zr_b false = 0 from rfl)]
    · rw [if_neg (show ¬ zr_b true = 0 by decide)]
      have n89 : w ≠ 8 ∧ w ≠ 9 := ⟨fun q => hns (Or.inr ⟨rfl, Or.inl q⟩), fun q => hns (Or.inr ⟨rfl, Or.inr q⟩)⟩
      rw [if_neg (show ¬ nI w = (8 : Int32) from zr_ne (b := 8) n89.1 (by omega) (by decide)), if_pos (show ¬ nI w = (9 : Int32) from zr_ne (b := 9) n89.2 (by omega) (by decide))]
