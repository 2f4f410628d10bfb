/-! ===== the readers' small steps ===== -/
/-- the class's tokens stand -/
def zp_X (T : Nat → Nat) (n : Nat) (I : zI) (J : zJ) : Prop := n ≤ 2000 ∧ (∀ j, j < n → T j < 256) ∧ ∀ j, j ≤ 500 → zt_go T n j → zt_C1 T n I J j
theorem zp_X_tr {T : Nat → Nat} {n : Nat} {I2 I : zI} {J2 J : zJ} (h : zp_X T n I J) (h4 : I2 4 = I 4) (h5 : I2 5 = I 5) (h6 : J2 6 = J 6) : zp_X T n I2 J2 := by
  refine ⟨h.1, h.2.1, fun j hj hg => ?_⟩
  unfold zt_C1
  rw [h4, h5, h6]
  exact h.2.2 j hj hg
theorem zp_K {T : Nat → Nat} {n : Nat} {I : zI} {J : zJ} (h : zp_X T n I J) (t : Nat) : zt_K T n t ≤ 36 := zt_K_b t (fun hlt => h.2.1 _ hlt)
theorem zp_go {T : Nat → Nat} {n t : Nat} (h : zt_go T n t) (h0 : zt_K T n t ≠ 0) (h1 : zt_K T n t ≠ 1) : zt_go T n (t + 1) := by
  intro j hj
  by_cases e : j = t
  · subst e; exact ⟨h0, h1⟩
  · exact h j (by omega)
/-- take: where no fault is -/
theorem zp_take {sw : Bool} {I : zI} {J : zJ} {T : Nat → Nat} {n t k : Nat} {kv rv : Int32} {rm : Bool} (hX : zp_X T n I J) (ht : t ≤ 500) (hg : zt_go T n t) (h0 : I 7 0 = 0) (h3 : I 7 3 = nI t) (hk : k ≤ 36) (ekv : kv = nI k) (erv : rv = zr_b rm) : f_X3_take 7 2 kv rv I (zE_R sw) = if zt_K T n t = k ∧ rm = true ∧ t < 500 then some (1, zw_u I 7 3 (nI (t + 1))) else some (0, zw_u (zw_u I 7 0 (nI (if zt_K T n t = k then 2 else 1))) 7 1 (nI (zt_a T n t))) := by
  subst ekv erv
  obtain ⟨c1, c2, -⟩ := hX.2.2 t ht hg
  have kb := zp_K hX t
  have i1 : zw_in (nI t) 501 = true := zE_in (by omega) (by decide)
  have i2 : Int32.toNatClampNeg (nI t) = t := zE_cl (by omega)
  have j49 : ∀ f : Nat, f ≠ 0 → f < 10 → j_X3_take_49 7 2 (zw_u I 7 0 (nI f)) (zE_R sw) = some (0, zw_u (zw_u I 7 0 (nI f)) 7 1 (nI (zt_a T n t))) := by
    intro f hf hf2
    have e0 : zw_u I 7 0 (nI f) 7 0 = nI f := zE_u1 _ _ _ _
    have e3 : zw_u I 7 0 (nI f) 7 3 = nI t := (zE_u2 _ _ (by omega)).trans h3
    have e5 : zw_u I 7 0 (nI f) 5 t = nI (zt_a T n t) := by rw [zw_u_off _ _ _ (by decide)]; exact c2
    unfold j_X3_take_49
    simp only [zE_gC, zE_rC sw, zE_sC, zw_g_t, zw_let_e, e0, e3, i1, i2, e5, if_neg (show ¬ nI f = (0 : Int32) from zr_ne (b := 0) hf (by omega) (by decide))]
  have j49' : j_X3_take_49 7 2 I (zE_R sw) = some (1, zw_u I 7 3 (nI (t + 1))) := by
    unfold j_X3_take_49
    simp only [zE_gC, zw_g_t, zw_let_e, h3, nI_1, if_pos h0]
  have j44 : j_X3_take_44 7 2 I (zE_R sw) = some (0, zw_u (zw_u I 7 0 (nI 2)) 7 1 (nI (zt_a T n t))) := by
    unfold j_X3_take_44
    rw [show zw_gc 7 3 = true by simp only [zE_gC], zw_g_t, zw_let_e]
    exact j49 2 (by decide) (by decide)
  have hd : f_X3_take 7 2 (nI k) (zr_b rm) I (zE_R sw) = if nI (zt_K T n t) = nI k then (if zr_b rm = 0 then j_X3_take_44 7 2 I (zE_R sw) else if nI t < 500 then j_X3_take_49 7 2 I (zE_R sw) else j_X3_take_44 7 2 I (zE_R sw)) else j_X3_take_49 7 2 (zw_u I 7 0 1) (zE_R sw) := by
    unfold f_X3_take
    simp only [zE_gC, zE_rC sw, zE_sC, zw_g_t, zw_let_e, h3, i1, i2, c1, if_pos h0]
  rw [hd, j44, j49']
  by_cases ck : zt_K T n t = k
  · rw [if_pos (show nI (zt_K T n t) = nI k by rw [ck]), if_pos ck]
    cases rm
    · rw [if_pos (show zr_b false = 0 from rfl), if_neg (fun r => absurd r.2.1 (by decide))]
    · rw [if_neg (show ¬ zr_b true = 0 by decide)]
      by_cases ct : t < 500
      · rw [if_pos (show nI t < (500 : Int32) from nI_lt (b := 500) ct (by decide)), if_pos ⟨ck, rfl, ct⟩]
      · rw [if_neg (show ¬ nI t < (500 : Int32) from nI_nlt (b := 500) (by omega) (by omega)), if_neg (fun r => ct r.2.2)]
  · rw [if_neg (zr_ne ck (by omega) (by omega)), if_neg (fun r => ck r.1), if_neg ck]
    exact j49 1 (by decide) (by decide)
theorem zp_takeF {sw : Bool} {I : zI} {kv rv : Int32} (h0 : ¬ I 7 0 = 0) : f_X3_take 7 2 kv rv I (zE_R sw) = some (0, I) := by
  unfold f_X3_take
  rw [show zw_gc 7 3 = true by simp only [zE_gC], zw_g_t, if_neg h0]
theorem zp_kind {sw : Bool} {I : zI} {J : zJ} {T : Nat → Nat} {n t : Nat} (hX : zp_X T n I J) (ht : t ≤ 500) (hg : zt_go T n t) (h0 : I 7 0 = 0) (h3 : I 7 3 = nI t) : f_X3_kind 7 2 I (zE_R sw) = some (nI (zt_K T n t)) := by
  obtain ⟨c1, -, -⟩ := hX.2.2 t ht hg
  unfold f_X3_kind
  rw [if_neg (fun r => r h0)]
  simp only [zE_gC, zE_rC sw, zE_sC, zw_g_t, h3, zE_in (show t < 501 by omega) (by decide), zE_cl (show t < 2 ^ 31 by omega), c1]
theorem zp_kindF {sw : Bool} {I : zI} (h0 : ¬ I 7 0 = 0) : f_X3_kind 7 2 I (zE_R sw) = some 1 := by
  unfold f_X3_kind
  rw [show zw_gc 7 3 = true by simp only [zE_gC], zw_g_t, if_pos h0]
/-- one entry of code -/
theorem zp_addCode {sw b : Bool} {I : zI} {cl : Nat} (h14 : I (zE_h b) 14 = nI cl) (hc : cl < 500) (kv vv : Int32) : f_X1_addCode (zE_h b) kv vv I (zE_R sw) = some (zw_u (zw_u (zw_u I (zE_h b + 7) cl kv) (zE_h b + 8) cl vv) (zE_h b) 14 (nI (cl + 1))) := by
  have hb := zE_hb b
  obtain ⟨-, -, -, -, -, -, r12, r13⟩ := zE_rH sw b
  obtain ⟨g0, -, -, -, -, -, -, g7, g8⟩ := zE_gH b
  obtain ⟨-, -, -, -, -, -, -, s7, s8⟩ := zE_sH b
  have e1 : zw_u I (zE_h b + 7) cl kv (zE_h b) 14 = nI cl := (zE_u2 _ _ (by omega)).trans h14
  have e2 : zw_u (zw_u I (zE_h b + 7) cl kv) (zE_h b + 8) cl vv (zE_h b) 14 = nI cl := (zE_u2 _ _ (by omega)).trans e1
  unfold f_X1_addCode
  simp only [g0, r12, r13, g7, g8, s7, s8, zw_g_t, zw_let_e, h14, if_neg (show ¬ (500 : Int32) ≤ nI cl from nI_ge (b := 500) hc (by decide)), zE_in hc (by decide), zE_cl (show cl < 2 ^ 31 by omega), e1, e2, nI_1]
theorem zp_addCodeF {sw b : Bool} {I : zI} {cl : Nat} (h14 : I (zE_h b) 14 = nI cl) (hc : cl ≤ 500) (kv vv : Int32) : ∃ I2 cl2, f_X1_addCode (zE_h b) kv vv I (zE_R sw) = some I2 ∧ cl2 ≤ 500 ∧ I2 (zE_h b) 14 = nI cl2 ∧ (∀ a, a ≠ zE_h b → a ≠ zE_h b + 7 → a ≠ zE_h b + 8 → I2 a = I a) ∧ ∀ y, y ≠ 14 → I2 (zE_h b) y = I (zE_h b) y := by
  by_cases c : cl < 500
  · refine ⟨_, cl + 1, zp_addCode h14 c kv vv, by omega, zE_u1 _ _ _ _, fun a a1 a2 a3 => by rw [zw_u_off _ _ _ a1, zw_u_off _ _ _ a3, zw_u_off _ _ _ a2], fun y hy => by rw [zE_u2 _ _ (by omega), zE_u2 _ _ (by omega), zE_u2 _ _ (by omega)]⟩
  · refine ⟨I, cl, ?_, hc, h14, fun _ _ _ _ => rfl, fun _ _ => rfl⟩
    unfold f_X1_addCode
    rw [(zE_gH b).1, zw_g_t, if_pos (show (500 : Int32) ≤ I (zE_h b) 14 by rw [h14]; exact nI_le (a := 500) (by omega) (by omega))]
/-! the class inside a rule: no fault, or a fault -/
/-- at token t; the code cc (the class's entries) was added since I0, which had cl of them -/
def zc_E (b : Bool) (I0 I : zI) (cl t : Nat) (cc : List zr_C) : Prop := (∀ a, a ≠ 7 → a ≠ zE_h b → a ≠ zE_h b + 7 → a ≠ zE_h b + 8 → I a = I0 a) ∧ I 7 0 = 0 ∧ I 7 3 = nI t ∧ (∀ y, y ≠ 3 → I 7 y = I0 7 y) ∧ I (zE_h b) 14 = nI (cl + cc.length) ∧ (∀ y, y ≠ 14 → I (zE_h b) y = I0 (zE_h b) y) ∧ zr_sg (I (zE_h b + 7)) (I (zE_h b + 8)) cl cc ∧ ∀ i, i < cl → I (zE_h b + 7) i = I0 (zE_h b + 7) i ∧ I (zE_h b + 8) i = I0 (zE_h b + 8) i
/-- a fault f at token e -/
def zc_F (b : Bool) (T : Nat → Nat) (n : Nat) (I0 I : zI) (f e : Nat) : Prop := (∀ a, a ≠ 7 → a ≠ zE_h b → a ≠ zE_h b + 7 → a ≠ zE_h b + 8 → I a = I0 a) ∧ (f = 1 ∨ f = 2) ∧ I 7 0 = nI f ∧ I 7 1 = nI (zt_a T n e) ∧ (∀ y, y ≠ 0 → y ≠ 1 → y ≠ 3 → I 7 y = I0 7 y) ∧ (∀ y, y ≠ 14 → I (zE_h b) y = I0 (zE_h b) y) ∧ ∃ c t, c ≤ 500 ∧ t ≤ 500 ∧ I (zE_h b) 14 = nI c ∧ I 7 3 = nI t
theorem zc_F.ne {b : Bool} {T : Nat → Nat} {n : Nat} {I0 I : zI} {f e : Nat} (h : zc_F b T n I0 I f e) : ¬ I 7 0 = 0 := by
  rw [h.2.2.1]
  rcases h.2.1 with rfl | rfl <;> decide
theorem zc_E.add {sw b : Bool} {I0 I : zI} {cl t : Nat} {cc : List zr_C} (h : zc_E b I0 I cl t cc) (hc : cl + cc.length < 500) (k v : Nat) : ∃ I2, f_X1_addCode (zE_h b) (nI k) (nI v) I (zE_R sw) = some I2 ∧ zc_E b I0 I2 cl t (cc ++ [(k, v)]) := by
  have hb := zE_hb b
  obtain ⟨h1, h2, h3, h4, h5, h6, h7, h8⟩ := h
  refine ⟨_, zp_addCode h5 hc (nI k) (nI v), fun a a1 a2 a3 a4 => by rw [zw_u_off _ _ _ a2, zw_u_off _ _ _ a4, zw_u_off _ _ _ a3, h1 a a1 a2 a3 a4], ?_, ?_, fun y hy => ?_, ?_, fun y hy => ?_, ?_, fun i hi => ⟨?_, ?_⟩⟩
  · rw [zE_u2 _ _ (by omega), zE_u2 _ _ (by omega), zE_u2 _ _ (by omega)]; exact h2
  · rw [zE_u2 _ _ (by omega), zE_u2 _ _ (by omega), zE_u2 _ _ (by omega)]; exact h3
  · rw [zE_u2 _ _ (by omega), zE_u2 _ _ (by omega), zE_u2 _ _ (by omega)]; exact h4 y hy
  · rw [zE_u1, List.length_append]; rfl
  · rw [zE_u2 _ _ (by omega), zE_u2 _ _ (by omega), zE_u2 _ _ (by omega)]; exact h6 y hy
  · rw [zr_sg_app]
    refine ⟨zr_sg_tr h7 (fun i q1 q2 => ⟨?_, ?_⟩), ?_, ?_, trivial⟩
    · rw [zw_u_off _ _ _ (by omega), zw_u_off _ _ _ (by omega), zE_u2 _ _ (by omega)]
    · rw [zw_u_off _ _ _ (by omega), zE_u2 _ _ (by omega), zw_u_off _ _ _ (by omega)]
    · rw [zw_u_off _ _ _ (by omega), zw_u_off _ _ _ (by omega), zE_u1]
    · rw [zw_u_off _ _ _ (by omega), zE_u1]
  · rw [zw_u_off _ _ _ (by omega), zw_u_off _ _ _ (by omega), zE_u2 _ _ (by omega)]; exact (h8 i hi).1
  · rw [zw_u_off _ _ _ (by omega), zE_u2 _ _ (by omega), zw_u_off _ _ _ (by omega)]; exact (h8 i hi).2
theorem zc_F.add {sw b : Bool} {T : Nat → Nat} {n : Nat} {I0 I : zI} {f e : Nat} (h : zc_F b T n I0 I f e) (kv vv : Int32) : ∃ I2, f_X1_addCode (zE_h b) kv vv I (zE_R sw) = some I2 ∧ zc_F b T n I0 I2 f e := by
  have hb := zE_hb b
  obtain ⟨h1, h2, h3, h4, h5, h6, c, t, hc, ht, h7, h9⟩ := h
  obtain ⟨I2, cl2, q1, q2, q3, q4, q5⟩ := zp_addCodeF (sw := sw) h7 hc kv vv
  have q7 : I2 7 = I 7 := q4 7 (by omega) (by omega) (by omega)
  exact ⟨I2, q1, fun a a1 a2 a3 a4 => (q4 a a2 a3 a4).trans (h1 a a1 a2 a3 a4), h2, by rw [q7]; exact h3, by rw [q7]; exact h4, fun y y1 y2 y3 => by rw [q7]; exact h5 y y1 y2 y3, fun y hy => (q5 y hy).trans (h6 y hy), cl2, t, q2, ht, q3, by rw [q7]; exact h9⟩
/-- take inside a rule -/
theorem zc_E.take {sw b : Bool} {I0 I : zI} {J : zJ} {T : Nat → Nat} {n cl t k : Nat} {cc : List zr_C} {kv rv : Int32} {rm : Bool} (hX : zp_X T n I0 J) (h : zc_E b I0 I cl t cc) (ht : t ≤ 500) (hg : zt_go T n t) (hc : cl + cc.length ≤ 500) (hk : k ≤ 36) (k0 : 2 ≤ k) (ekv : kv = nI k) (erv : rv = zr_b rm) : (zt_K T n t = k ∧ rm = true ∧ t < 500 ∧ zt_go T n (t + 1) ∧ ∃ I2, f_X3_take 7 2 kv rv I (zE_R sw) = some (1, I2) ∧ zc_E b I0 I2 cl (t + 1) cc) ∨ (∃ I2, ¬ (zt_K T n t = k ∧ rm = true ∧ t < 500) ∧ f_X3_take 7 2 kv rv I (zE_R sw) = some (0, I2) ∧ zc_F b T n I0 I2 (if zt_K T n t = k then 2 else 1) t) := by
  have hb := zE_hb b
  have hX2 : zp_X T n I J := zp_X_tr hX (h.1 4 (by decide) (by omega) (by omega) (by omega)) (h.1 5 (by decide) (by omega) (by omega) (by omega)) rfl
  obtain ⟨h1, h2, h3, h4, h5, h6, h7, h8⟩ := h
  have tk := zp_take (sw := sw) hX2 ht hg h2 h3 hk ekv erv
  by_cases c : zt_K T n t = k ∧ rm = true ∧ t < 500
  · rw [if_pos c] at tk
    refine Or.inl ⟨c.1, c.2.1, c.2.2, zp_go hg (by omega) (by omega), _, tk, fun a a1 a2 a3 a4 => by rw [zw_u_off _ _ _ a1, h1 a a1 a2 a3 a4], ?_, zE_u1 _ _ _ _, fun y hy => by rw [zE_u2 _ _ (by omega), h4 y hy], ?_, fun y hy => ?_, ?_, fun i hi => ?_⟩
    · rw [zE_u2 _ _ (by omega)]; exact h2
    · rw [zw_u_off _ _ _ (by omega)]; exact h5
    · rw [zw_u_off _ _ _ (by omega)]; exact h6 y hy
    · rw [zw_u_off _ _ _ (by omega), zw_u_off _ _ _ (by omega)]; exact h7
    · rw [zw_u_off _ _ _ (by omega), zw_u_off _ _ _ (by omega)]; exact h8 i hi
  · rw [if_neg c] at tk
    refine Or.inr ⟨_, c, tk, fun a a1 a2 a3 a4 => by rw [zw_u_off _ _ _ a1, zw_u_off _ _ _ a1, h1 a a1 a2 a3 a4], ?_, ?_, zE_u1 _ _ _ _, fun y y1 y2 y3 => ?_, fun y hy => ?_, cl + cc.length, t, hc, ht, ?_, ?_⟩
    · by_cases ck : zt_K T n t = k
      · rw [if_pos ck]; exact Or.inr rfl
      · rw [if_neg ck]; exact Or.inl rfl
    · rw [zE_u2 _ _ (by omega), zE_u1]
    · rw [zE_u2 _ _ (by omega), zE_u2 _ _ (by omega), h4 y y3]
    · rw [zw_u_off _ _ _ (by omega), zw_u_off _ _ _ (by omega)]; exact h6 y hy
    · rw [zw_u_off _ _ _ (by omega), zw_u_off _ _ _ (by omega)]; exact h5
    · rw [zE_u2 _ _ (by omega), zE_u2 _ _ (by omega)]; exact h3
theorem zc_E.kind {sw b : Bool} {I0 I : zI} {J : zJ} {T : Nat → Nat} {n cl t : Nat} {cc : List zr_C} (hX : zp_X T n I0 J) (h : zc_E b I0 I cl t cc) (ht : t ≤ 500) (hg : zt_go T n t) : f_X3_kind 7 2 I (zE_R sw) = some (nI (zt_K T n t)) := by
  have hb := zE_hb b
  have hX2 : zp_X T n I J := zp_X_tr hX (h.1 4 (by decide) (by omega) (by omega) (by omega)) (h.1 5 (by decide) (by omega) (by omega) (by omega)) rfl
  exact zp_kind hX2 ht hg h.2.1 h.2.2.1
