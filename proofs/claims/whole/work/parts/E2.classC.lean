/-! ===== the class between two tokens of a TELL ===== -/
def zx_pl (q : Nat × Nat) : Int32 := if q.1 = 0 then -1 else nI q.2
def zx_NC (b : Bool) (I : zI) (J : zJ) (ts : List Nat) : Prop := ∃ k, k ≤ ts.length ∧ I (zE_h b) 11 = nI k ∧ ∀ v, (∃ i, i < k ∧ J (zE_h b + 6) i = v) ↔ ∃ u, u ∈ ts ∧ J 6 u = v
def zx_7 (I : zI) (t : Nat) (q : Nat × Nat) : Prop := I 7 0 = 0 ∧ I 7 3 = nI t ∧ I 7 4 = nI q.1 ∧ I 7 5 = zx_pl q
/-- a house's stuffs and drawings; a drawing without rows is still in the making -/
def zx_HC (b : Bool) (I : zI) (H : zq_H) : Prop := I (zE_h b) 1 = nI H.ns ∧ I (zE_h b) 3 = nI H.nc ∧ I (zE_h b) 5 = nI H.nr ∧ (∀ k, k < H.ns → (∀ c, c < 4 → I (zE_h b + (10 + 3 * k)) c = nI (H.fl k c) ∧ I (zE_h b + (11 + 3 * k)) c = nI (H.sl k c)) ∧ I (zE_h b + (9 + 3 * k)) 2 = nI (H.ea k)) ∧ ∀ k, H.has k → (H.D k).t ≠ 0 → zq_DC I (zE_h b + (21 + 2 * k)) (H.D k) ∧ zq_DX I (zE_h b + (21 + 2 * k)) (H.D k)
/-- at token t; σ is told -/
def zx_C (b : Bool) (T : Nat → Nat) (n : Nat) (I : zI) (J : zJ) (t : Nat) (σ : zx_S) : Prop := zx_7 I t σ.2.2.2 ∧ zp_X T n I J ∧ zt_TC I T n ∧ zx_NC b I J σ.2.2.1 ∧ I (zE_h b) 1 = nI σ.1.ns ∧ I (zE_h b) 3 = nI σ.1.nc ∧ I (zE_h b) 5 = nI σ.1.nr ∧ I (zE_h b) 7 = nI σ.2.1.1 ∧ I (zE_h b) 9 = nI σ.2.1.2.1 ∧ ∃ cl, cl ≤ t ∧ I (zE_h b) 14 = nI cl ∧ (σ.2.2.2.1 = 0 → zx_HC b I σ.1 ∧ ∀ k, zr_has σ.2.1 k → zr_RC b I (zE_h b + (41 + k)) cl (σ.2.1.2.2.1 k) (σ.2.1.2.2.2 k))
/-- how many there may be -/
def zx_B (σ : zx_S) : Prop := σ.1.ns ≤ 4 ∧ σ.1.nc ≤ 6 ∧ σ.1.nr ≤ 4 ∧ σ.2.1.1 ≤ 8 ∧ σ.2.1.2.1 ≤ 8
theorem zx_has10 {H : zq_H} {k : Nat} (h6 : H.nc ≤ 6) (h4 : H.nr ≤ 4) (hk : H.has k) : k < 10 := by
  rcases hk with hk | hk <;> omega
theorem zx_has16 {Q : zr_Q} {k : Nat} (h8 : Q.1 ≤ 8) (h9 : Q.2.1 ≤ 8) (hk : zr_has Q k) : k < 16 := by
  unfold zr_has at hk
  omega
/-- behind a fault -/
def zx_FF (b : Bool) (T : Nat → Nat) (n : Nat) (I : zI) (f e : Nat) : Prop := (f = 1 ∨ f = 2) ∧ I 7 0 = nI f ∧ I 7 1 = nI (zt_a T n e) ∧ ∃ c t, c ≤ 500 ∧ t ≤ 500 ∧ I (zE_h b) 14 = nI c ∧ I 7 3 = nI t
def zx_RC (b : Bool) (T : Nat → Nat) (n : Nat) (I : zI) (J : zJ) (ω : zx_O) : Prop := match ω with
  | .inl x => zx_C b T n I J x.1 x.2
  | .inr y => zx_FF b T n I y.1 y.2
theorem zx_FF.ne {b : Bool} {T : Nat → Nat} {n : Nat} {I : zI} {f e : Nat} (h : zx_FF b T n I f e) : ¬ I 7 0 = 0 := by
  rw [h.2.1]
  rcases h.1 with rfl | rfl <;> decide
theorem zx_FF.c {b : Bool} {T : Nat → Nat} {n : Nat} {I : zI} {f e : Nat} (h : zx_FF b T n I f e) : zc_F b T n I I f e := by
  obtain ⟨h1, h2, h3, c, t, h4, h5, h6, h7⟩ := h
  exact ⟨fun _ _ _ _ _ => rfl, h1, h2, h3, fun _ _ _ _ => rfl, fun _ _ => rfl, c, t, h4, h5, h6, h7⟩
theorem zc_F.ff {b : Bool} {T : Nat → Nat} {n : Nat} {I0 I : zI} {f e : Nat} (h : zc_F b T n I0 I f e) : zx_FF b T n I f e := by
  obtain ⟨-, h1, h2, h3, -, -, c, t, h4, h5, h6, h7⟩ := h
  exact ⟨h1, h2, h3, c, t, h4, h5, h6, h7⟩
theorem zx_FF.u {b : Bool} {T : Nat → Nat} {n : Nat} {I : zI} {f e : Nat} (h : zx_FF b T n I f e) {o j : Nat} (v : Int32) (ho : o ≠ 7) (hj : ¬ (o = zE_h b ∧ j = 14)) : zx_FF b T n (zw_u I o j v) f e := by
  obtain ⟨h1, h2, h3, c, t, h4, h5, h6, h7⟩ := h
  refine ⟨h1, ?_, ?_, c, t, h4, h5, ?_, ?_⟩
  · rw [zE_u2 _ _ (by omega)]; exact h2
  · rw [zE_u2 _ _ (by omega)]; exact h3
  · rw [zE_u2 _ _ (fun r => hj ⟨r.1.symm, r.2.symm⟩)]; exact h6
  · rw [zE_u2 _ _ (by omega)]; exact h7
/-- a frame: nothing but cells of the house beyond its own object -/
theorem zx_FF.fr {b : Bool} {T : Nat → Nat} {n : Nat} {I I2 : zI} {f e : Nat} (h : zx_FF b T n I f e) (h1 : I2 7 0 = I 7 0) (h2 : I2 7 1 = I 7 1) (h3 : I2 7 3 = I 7 3) (h4 : I2 (zE_h b) 14 = I (zE_h b) 14) : zx_FF b T n I2 f e := by
  unfold zx_FF
  rw [h1, h2, h3, h4]
  exact h
theorem zx_HC_tr {b : Bool} {I I2 : zI} {H : zq_H} (n4 : H.ns ≤ 4) (n6 : H.nc ≤ 6) (n5 : H.nr ≤ 4) (h : zx_HC b I H) (h1 : ∀ a, zE_h b < a → a ≤ zE_h b + 40 → I2 a = I a) (e1 : I2 (zE_h b) 1 = I (zE_h b) 1) (e3 : I2 (zE_h b) 3 = I (zE_h b) 3) (e5 : I2 (zE_h b) 5 = I (zE_h b) 5) : zx_HC b I2 H := by
  obtain ⟨a1, a2, a3, a4, a5⟩ := h
  refine ⟨e1.trans a1, e3.trans a2, e5.trans a3, fun k hk => ?_, fun k hk hz => ?_⟩
  · have x1 : I2 (zE_h b + (10 + 3 * k)) = I (zE_h b + (10 + 3 * k)) := h1 _ (by omega) (by omega)
    have x2 : I2 (zE_h b + (11 + 3 * k)) = I (zE_h b + (11 + 3 * k)) := h1 _ (by omega) (by omega)
    have x3 : I2 (zE_h b + (9 + 3 * k)) = I (zE_h b + (9 + 3 * k)) := h1 _ (by omega) (by omega)
    rw [x1, x2, x3]
    exact a4 k hk
  · have h10 := zx_has10 n6 n5 hk
    have e : I2 (zE_h b + (21 + 2 * k)) = I (zE_h b + (21 + 2 * k)) := h1 _ (by omega) (by omega)
    refine ⟨zq_DC_tr (a5 k hk hz).1 e (h1 _ (by omega) (by omega)), ?_⟩
    have h6 := (a5 k hk hz).2
    unfold zq_DX at h6 ⊢
    rw [e]
    exact h6
theorem zx_RC_tr {b : Bool} {I I2 : zI} {ro cl cl2 : Nat} {e : List zr_C} {ls : List zr_L} (h : zr_RC b I ro cl e ls) (e1 : I2 ro = I ro) (hc : ∀ i, i < cl → I2 (zE_h b + 7) i = I (zE_h b + 7) i ∧ I2 (zE_h b + 8) i = I (zE_h b + 8) i) (hcl : cl ≤ cl2) : zr_RC b I2 ro cl2 e ls := by
  obtain ⟨w, c, n2, q0, q1, q2, q3, q4, q5, q6, q7⟩ := h
  exact ⟨w, c, n2, by rw [e1]; exact q0, by rw [e1]; exact q1, by rw [e1]; exact q2, q3, q4, by omega, zr_sg_tr q6 (fun i i1 i2 => hc i (by rw [List.length_map] at i2; omega)), zr_sg_tr q7 (fun i i1 i2 => hc i (by omega))⟩
theorem zx_C_tr {b : Bool} {T : Nat → Nat} {n : Nat} {I I2 : zI} {J J2 : zJ} {t t2 : Nat} {σ : zx_S} {ts2 : List Nat} {q2 : Nat × Nat} (hK : zx_B σ) (h : zx_C b T n I J t σ) (f : ∀ a, a ≠ 7 → a ≠ zE_h b → I2 a = I a) (fh : ∀ y, y ≠ 11 → I2 (zE_h b) y = I (zE_h b) y) (h7 : zx_7 I2 t2 q2) (ht : t ≤ t2) (hj : J2 6 = J 6) (hN : zx_NC b I2 J2 ts2) (hq : q2.1 = 0 → σ.2.2.2.1 = 0) : zx_C b T n I2 J2 t2 (σ.1, σ.2.1, ts2, q2) := by
  have hb := zE_hb b
  obtain ⟨a1, a2, a3, a4, a5, a6, a7, a8, a9, cl, a10, a11, a12⟩ := h
  refine ⟨h7, zp_X_tr a2 (f 4 (by omega) (by omega)) (f 5 (by omega) (by omega)) hj, zt_TC_tr a3 (f 2 (by omega) (by omega)) (f 3 (by omega) (by omega)), hN, (fh 1 (by decide)).trans a5, (fh 3 (by decide)).trans a6, (fh 5 (by decide)).trans a7, (fh 7 (by decide)).trans a8, (fh 9 (by decide)).trans a9, cl, by omega, (fh 14 (by decide)).trans a11, fun h0 => ?_⟩
  have h0 := hq h0
  obtain ⟨k1, k2, k3, k4, k5⟩ := hK
  obtain ⟨c1, c2⟩ := a12 h0
  refine ⟨zx_HC_tr k1 k2 k3 c1 (fun a x1 x2 => f a (by omega) (by omega)) (fh 1 (by decide)) (fh 3 (by decide)) (fh 5 (by decide)), fun k hk => ?_⟩
  refine zx_RC_tr (c2 k hk) (f _ (by omega) (by omega)) (fun i _ => ?_) (Nat.le_refl _)
  rw [f (zE_h b + 7) (by omega) (by omega), f (zE_h b + 8) (by omega) (by omega)]
  exact ⟨rfl, rfl⟩
theorem zx_NC_tr {b : Bool} {I I2 : zI} {J : zJ} {ts : List Nat} (h : zx_NC b I J ts) (e : I2 (zE_h b) 11 = I (zE_h b) 11) : zx_NC b I2 J ts := by
  unfold zx_NC
  rw [e]
  exact h
/-- a token is taken -/
theorem zx_takeC {sw b : Bool} {I : zI} {J : zJ} {T : Nat → Nat} {n t k : Nat} {kv rv : Int32} {rm : Bool} {σ : zx_S} (hK : zx_B σ) (h : zx_C b T n I J t σ) (ht : t ≤ 500) (hg : zt_go T n t) (hk : k ≤ 36) (ekv : kv = nI k) (erv : rv = zr_b rm) : (zt_K T n t = k ∧ rm = true ∧ t < 500 ∧ ∃ I2, f_X3_take 7 2 kv rv I (zE_R sw) = some (1, I2) ∧ zx_C b T n I2 J (t + 1) σ) ∨ (¬ (zt_K T n t = k ∧ rm = true ∧ t < 500) ∧ ∃ I2, f_X3_take 7 2 kv rv I (zE_R sw) = some (0, I2) ∧ zx_FF b T n I2 (if zt_K T n t = k then 2 else 1) t ∧ ∀ a, a ≠ 7 → I2 a = I a) := by
  have hb := zE_hb b
  obtain ⟨⟨b0, b3, b4, b5⟩, a2, a3, a4, a5, a6, a7, a8, a9, cl, a10, a11, a12⟩ := id h
  have tk := zp_take (sw := sw) a2 ht hg b0 b3 hk ekv erv
  by_cases c : zt_K T n t = k ∧ rm = true ∧ t < 500
  · rw [if_pos c] at tk
    refine Or.inl ⟨c.1, c.2.1, c.2.2, _, tk, ?_⟩
    have r := zx_C_tr (I2 := zw_u I 7 3 (nI (t + 1))) (t2 := t + 1) (ts2 := σ.2.2.1) (q2 := σ.2.2.2) (J2 := J) hK h (fun a x1 x2 => zw_u_off _ _ _ x1) (fun y _ => by rw [zw_u_off _ _ _ (by omega)]) ⟨by rw [zE_u2 _ _ (by omega)]; exact b0, zE_u1 _ _ _ _, by rw [zE_u2 _ _ (by omega)]; exact b4, by rw [zE_u2 _ _ (by omega)]; exact b5⟩ (by omega) rfl (zx_NC_tr a4 (by rw [zw_u_off _ _ _ (by omega)])) (fun q => q)
    exact r
  · rw [if_neg c] at tk
    refine Or.inr ⟨c, _, tk, ⟨?_, ?_, zE_u1 _ _ _ _, cl, t, by omega, ht, ?_, ?_⟩, fun a ha => by rw [zw_u_off _ _ _ ha, zw_u_off _ _ _ ha]⟩
    · by_cases ck : zt_K T n t = k
      · rw [if_pos ck]; exact Or.inr rfl
      · rw [if_neg ck]; exact Or.inl rfl
    · rw [zE_u2 _ _ (by omega), zE_u1]
    · rw [zw_u_off _ _ _ (by omega), zw_u_off _ _ _ (by omega)]; exact a11
    · rw [zE_u2 _ _ (by omega), zE_u2 _ _ (by omega)]; exact b3
theorem zx_kindC {sw b : Bool} {I : zI} {J : zJ} {T : Nat → Nat} {n t : Nat} {σ : zx_S} (h : zx_C b T n I J t σ) (ht : t ≤ 500) (hg : zt_go T n t) : f_X3_kind 7 2 I (zE_R sw) = some (nI (zt_K T n t)) := zp_kind h.2.1 ht hg h.1.1 h.1.2.1
/-- a name's value, in the class -/
theorem zx_vC {T : Nat → Nat} {n t : Nat} {I : zI} {J : zJ} (hX : zp_X T n I J) (ht : t ≤ 500) (hg : zt_go T n t) (h : zt_K T n t = 2) : J 6 t = lN (zt_en 32 (zt_w T n (zt_a T n t))) := by
  obtain ⟨w1, w2, w3, w4, w5⟩ := zn_word h
  obtain ⟨-, -, x3⟩ := hX.2.2 t ht hg
  rw [x3, if_pos w1]
  unfold zt_cv
  rw [if_pos w2, if_pos w3]
theorem zx_tw_iff {T : Nat → Nat} {n t : Nat} {ts : List Nat} : zx_tw T n ts t = true ↔ ∃ u, u ∈ ts ∧ zt_w T n (zt_a T n u) = zt_w T n (zt_a T n t) := by
  unfold zx_tw
  rw [List.any_eq_true]
  constructor
  · rintro ⟨u, u1, u2⟩; exact ⟨u, u1, of_decide_eq_true u2⟩
  · rintro ⟨u, u1, u2⟩; exact ⟨u, u1, decide_eq_true u2⟩
theorem zx_twC {T : Nat → Nat} {n t : Nat} {ts : List Nat} {I : zI} {J : zJ} (hX : zp_X T n I J) (hts : ∀ u, u ∈ ts → u ≤ 500 ∧ zt_go T n u ∧ zt_K T n u = 2) (ht : t ≤ 500) (hg : zt_go T n t) (hk : zt_K T n t = 2) : (∃ u, u ∈ ts ∧ J 6 u = J 6 t) ↔ zx_tw T n ts t = true := by
  rw [zx_tw_iff]
  obtain ⟨-, -, -, w4, w5⟩ := zn_word hk
  have et := zx_vC hX ht hg hk
  constructor
  · rintro ⟨u, u1, u2⟩
    obtain ⟨p1, p2, p3⟩ := hts u u1
    obtain ⟨-, -, -, v4, v5⟩ := zn_word p3
    rw [et, zx_vC hX p1 p2 p3, pk_lEQ (zn_en32 v4 v5) (zn_en32 w4 w5)] at u2
    exact ⟨u, u1, zt_en_in (B := 32) (by decide) _ _ v4 w4 u2⟩
  · rintro ⟨u, u1, u2⟩
    obtain ⟨p1, p2, p3⟩ := hts u u1
    exact ⟨u, u1, by rw [et, zx_vC hX p1 p2 p3, u2]⟩
theorem zx_nameF {sw b : Bool} {I : zI} {J : zJ} {T : Nat → Nat} {n f e : Nat} (h : zx_FF b T n I f e) : f_X3_takeName 7 2 I (zE_R sw) J = some (I, J) := by
  obtain ⟨h1, h2, h3, c, t, h4, h5, h6, h7⟩ := id h
  unfold f_X3_takeName
  simp only [zE_gC, zE_rC sw, zE_sC, zw_g_t, zw_let_e, h7, zE_in (show t < 501 by omega) (by decide), zE_cl (show t < 2 ^ 31 by omega), zp_takeF h.ne, Option.bind_some]
  exact if_pos trivial
/-- a name is taken -/
theorem zx_nameC {sw b : Bool} {I : zI} {J : zJ} {T : Nat → Nat} {n t : Nat} {σ : zx_S} (hr : zE_R sw 7 2 = zE_h b) (hK : zx_B σ) (hts : ∀ u, u ∈ σ.2.2.1 → u ≤ 500 ∧ zt_go T n u ∧ zt_K T n u = 2) (hl : σ.2.2.1.length < 30) (hq : zx_qk T n t σ.2.2.2) (h : zx_C b T n I J t σ) (ht : t ≤ 500) (hg : zt_go T n t) : (zt_K T n t = 2 ∧ t < 500 ∧ ∃ I2 J2, f_X3_takeName 7 2 I (zE_R sw) J = some (I2, J2) ∧ zx_C b T n I2 J2 (t + 1) (σ.1, σ.2.1, t :: σ.2.2.1, zx_qn T n σ.2.2.1 σ.2.2.2 t)) ∨ (¬ (zt_K T n t = 2 ∧ t < 500) ∧ ∃ I2, f_X3_takeName 7 2 I (zE_R sw) J = some (I2, J) ∧ zx_FF b T n I2 (if zt_K T n t = 2 then 2 else 1) t ∧ ∀ a, a ≠ 7 → I2 a = I a) := by
  have hb := zE_hb b
  obtain ⟨⟨b0, b3, b4, b5⟩, a2, a3, ⟨k, n1, n2, n3⟩, a5, a6, a7, a8, a9, cl, a10, a11, a12⟩ := id h
  have lc : (t :: σ.2.2.1).length = σ.2.2.1.length + 1 := List.length_cons
  have q31 : σ.2.2.2.1 < 2 ^ 31 := by
    by_cases c : σ.2.2.2.1 = 0
    · omega
    · have := (hq c).1; omega
  rcases zc_takeName (sw := sw) hr a2 ht hg b0 b3 n2 (by omega) with ⟨c1, c2, ⟨c3, c4⟩ | ⟨c3, c4⟩⟩ | ⟨c1, c4⟩
  · refine Or.inl ⟨c1, c2, _, _, c4, ?_⟩
    have tw : zx_qn T n σ.2.2.1 σ.2.2.2 t = σ.2.2.2 := by
      unfold zx_qn
      rw [if_neg]
      intro r
      obtain ⟨i, i1, i2⟩ := (n3 _).mpr ((zx_twC a2 hts ht hg c1).mpr r)
      exact c3 i i1 i2
    rw [tw]
    refine zx_C_tr hK h (fun a x1 x2 => by rw [zw_u_off _ _ _ x2, zw_u_off _ _ _ x1]) (fun y hy => by rw [zE_u2 _ _ (by omega), zw_u_off _ _ _ (by omega)]) ⟨?_, ?_, ?_, ?_⟩ (by omega) (zw_u_off _ _ _ (by omega)) ⟨k + 1, by omega, zE_u1 _ _ _ _, fun v => ?_⟩ (fun q => q)
    · rw [zw_u_off _ _ _ (by omega), zE_u2 _ _ (by omega)]; exact b0
    · rw [zw_u_off _ _ _ (by omega), zE_u1]
    · rw [zw_u_off _ _ _ (by omega), zE_u2 _ _ (by omega)]; exact b4
    · rw [zw_u_off _ _ _ (by omega), zE_u2 _ _ (by omega)]; exact b5
    · have m := zn_more (A := J (zE_h b + 6)) (A2 := zw_u J (zE_h b + 6) k (J 6 t) (zE_h b + 6)) (o := 0) (m := k) (w := J 6 t) (by rw [Nat.zero_add, zE_u1]) (fun i hi => by rw [Nat.zero_add, zE_u2 _ _ (by omega)]) v
      simp only [Nat.zero_add] at m
      rw [m, zw_u_off _ _ _ (show (6 : Nat) ≠ zE_h b + 6 by omega), zn_cons, n3]
  · refine Or.inl ⟨c1, c2, _, _, c4, ?_⟩
    have tw : zx_qn T n σ.2.2.1 σ.2.2.2 t = zx_n σ.2.2.2 3 (zt_a T n t) := by
      unfold zx_qn
      rw [if_pos ((zx_twC a2 hts ht hg c1).mp ((n3 _).mp c3))]
    rw [tw]
    have NC : ∀ I2 : zI, I2 (zE_h b) 11 = I (zE_h b) 11 → zx_NC b I2 J (t :: σ.2.2.1) := by
      intro I2 e
      refine ⟨k, by omega, e.trans n2, fun v => ?_⟩
      rw [zn_cons, n3]
      constructor
      · exact fun q => Or.inr q
      · rintro (q | q)
        · rw [← q]; exact (n3 _).mp c3
        · exact q
    by_cases c5 : σ.2.2.2.1 = 0
    · have e4 : I 7 4 = 0 := by rw [b4, c5]; rfl
      rw [if_neg (fun r => r e4)]
      have en : zx_n σ.2.2.2 3 (zt_a T n t) = (3, zt_a T n t) := if_pos c5
      rw [en]
      refine zx_C_tr hK h (fun a x1 x2 => by rw [zw_u_off _ _ _ x1, zw_u_off _ _ _ x1, zw_u_off _ _ _ x1]) (fun y hy => by rw [zw_u_off _ _ _ (by omega), zw_u_off _ _ _ (by omega), zw_u_off _ _ _ (by omega)]) ⟨?_, ?_, ?_, ?_⟩ (by omega) rfl (NC _ (by rw [zw_u_off _ _ _ (by omega), zw_u_off _ _ _ (by omega), zw_u_off _ _ _ (by omega)])) (fun q => c5)
      · rw [zE_u2 _ _ (by omega), zE_u2 _ _ (by omega), zE_u2 _ _ (by omega)]; exact b0
      · rw [zE_u2 _ _ (by omega), zE_u2 _ _ (by omega), zE_u1]
      · rw [zE_u2 _ _ (by omega), zE_u1]; rfl
      · rw [zE_u1]; rfl
    · have e4 : ¬ I 7 4 = 0 := by rw [b4]; exact zr_ne (b := 0) c5 q31 (by decide)
      rw [if_pos e4]
      have en : zx_n σ.2.2.2 3 (zt_a T n t) = σ.2.2.2 := if_neg c5
      rw [en]
      refine zx_C_tr hK h (fun a x1 x2 => by rw [zw_u_off _ _ _ x1]) (fun y hy => by rw [zw_u_off _ _ _ (by omega)]) ⟨?_, zE_u1 _ _ _ _, ?_, ?_⟩ (by omega) rfl (NC _ (by rw [zw_u_off _ _ _ (by omega)])) (fun q => q)
      · rw [zE_u2 _ _ (by omega)]; exact b0
      · rw [zE_u2 _ _ (by omega)]; exact b4
      · rw [zE_u2 _ _ (by omega)]; exact b5
  · refine Or.inr ⟨c1, _, c4, ⟨?_, ?_, zE_u1 _ _ _ _, cl, t, by omega, ht, ?_, ?_⟩, fun a ha => by rw [zw_u_off _ _ _ ha, zw_u_off _ _ _ ha]⟩
    · by_cases ck : zt_K T n t = 2
      · rw [if_pos ck]; exact Or.inr rfl
      · rw [if_neg ck]; exact Or.inl rfl
    · rw [zE_u2 _ _ (by omega), zE_u1]
    · rw [zw_u_off _ _ _ (by omega), zw_u_off _ _ _ (by omega)]; exact a11
    · rw [zE_u2 _ _ (by omega), zE_u2 _ _ (by omega)]; exact b3
/-- a later fault is noted -/
theorem zx_noteC {b : Bool} {I : zI} {J : zJ} {T : Nat → Nat} {n t f p : Nat} {σ : zx_S} {fv pv : Int32} (hK : zx_B σ) (hq : σ.2.2.2.1 ≤ 9) (h : zx_C b T n I J t σ) (hf : f ≠ 0) (efv : fv = nI f) (epv : pv = nI p) : ∃ I2, f_X3_noteLater 7 fv pv I = some I2 ∧ zx_C b T n I2 J t (σ.1, σ.2.1, σ.2.2.1, zx_n σ.2.2.2 f p) ∧ (∀ a, a ≠ 7 → I2 a = I a) := by
  have hb := zE_hb b
  obtain ⟨⟨b0, b3, b4, b5⟩, a2, a3, a4, -⟩ := id h
  have g7 : zw_gc 7 3 = true := by simp only [zE_gC]
  unfold f_X3_noteLater
  rw [g7, zw_g_t]
  subst efv epv
  by_cases c5 : σ.2.2.2.1 = 0
  · have e4 : I 7 4 = 0 := by rw [b4, c5]; rfl
    rw [if_neg (fun r => r e4), zw_let_e, zw_let_e]
    refine ⟨_, rfl, ?_, fun a x => by rw [zw_u_off _ _ _ x, zw_u_off _ _ _ x]⟩
    have en : zx_n σ.2.2.2 f p = (f, p) := if_pos c5
    rw [en]
    refine zx_C_tr hK h (fun a x1 x2 => by rw [zw_u_off _ _ _ x1, zw_u_off _ _ _ x1]) (fun y hy => by rw [zw_u_off _ _ _ (by omega), zw_u_off _ _ _ (by omega)]) ⟨?_, ?_, ?_, ?_⟩ (Nat.le_refl _) rfl (zx_NC_tr a4 (by rw [zw_u_off _ _ _ (by omega), zw_u_off _ _ _ (by omega)])) (fun q => absurd q hf)
    · rw [zE_u2 _ _ (by omega), zE_u2 _ _ (by omega)]; exact b0
    · rw [zE_u2 _ _ (by omega), zE_u2 _ _ (by omega)]; exact b3
    · rw [zE_u2 _ _ (by omega), zE_u1]
    · rw [zE_u1]
      unfold zx_pl
      rw [if_neg hf]
  · have e4 : ¬ I 7 4 = 0 := by rw [b4]; exact zr_ne (b := 0) c5 (by omega) (by decide)
    rw [if_pos e4]
    have en : zx_n σ.2.2.2 f p = σ.2.2.2 := if_neg c5
    rw [en]
    exact ⟨I, rfl, h, fun _ _ => rfl⟩
