/-! ===== a PRICE, as the class reads it ===== -/
theorem zc_E.w {b : Bool} {I0 I : zI} {cl t : Nat} {cc : List zr_C} (h : zc_E b I0 I cl t cc) {o : Nat} (h1 : o ≠ 7) (h2 : o ≠ zE_h b) (h3 : o ≠ zE_h b + 7) (h4 : o ≠ zE_h b + 8) (j : Nat) (v : Int32) : zc_E b (zw_u I0 o j v) (zw_u I o j v) cl t cc := by
  obtain ⟨e1, e2, e3, e4, e5, e6, e7, e8⟩ := h
  refine ⟨fun a a1 a2 a3 a4 => ?_, ?_, ?_, fun y hy => ?_, ?_, fun y hy => ?_, ?_, fun i hi => ?_⟩
  · funext i
    unfold zw_u
    rw [e1 a a1 a2 a3 a4]
  · rw [zw_u_off _ _ _ h1.symm]; exact e2
  · rw [zw_u_off _ _ _ h1.symm]; exact e3
  · rw [zw_u_off _ _ _ h1.symm, zw_u_off _ _ _ h1.symm]; exact e4 y hy
  · rw [zw_u_off _ _ _ h2.symm]; exact e5
  · rw [zw_u_off _ _ _ h2.symm, zw_u_off _ _ _ h2.symm]; exact e6 y hy
  · rw [zw_u_off _ _ _ h3.symm, zw_u_off _ _ _ h4.symm]; exact e7
  · rw [zw_u_off _ _ _ h3.symm, zw_u_off _ _ _ h4.symm, zw_u_off _ _ _ h3.symm, zw_u_off _ _ _ h4.symm]; exact e8 i hi
/-- a PRICE behind its name -/
def zx_pr (R : zR) (h : Nat) (I : zI) (J : zJ) : Option (zI × zJ) := (f_X1_addPrice h I R).bind fun q10 => (zw_g (zw_gc q10.1 5) ((f_X5_begin q10.1 (q10.2 h 14) q10.2).bind fun q12 => ((r_X3_readSum 8 7 2 0 q12 R J).bind fun q13 => (zw_let (zw_u q13 q10.1 1 (q13 h 14) : zI) fun I14 => ((f_X3_kind 7 2 I14 R).bind fun q15 => (if ¬ q15 = 24 then j_X3_readPrice_95 7 2 q10.1 I14 R J else (f_X3_take 7 2 24 1 I14 R).bind fun q22 => (if q22.1 = 0 then j_X3_readPrice_95 7 2 q10.1 q22.2 R J else (f_X3_readCondition 7 2 q22.2 R J).bind fun q24 => (j_X3_readPrice_95 7 2 q10.1 q24 R J))))))))
theorem zx_95F {sw b : Bool} {I : zI} {J : zJ} {T : Nat → Nat} {n f e k : Nat} (hr : zE_R sw 7 2 = zE_h b) (h : zx_FF b T n I f e) (hk : k < 16) : ∃ I2, j_X3_readPrice_95 7 2 (zE_h b + (41 + k)) I (zE_R sw) J = some (I2, J) ∧ zx_FF b T n I2 f e := by
  have hb := zE_hb b
  have g7 : zw_gc 7 3 = true := by simp only [zE_gC]
  have F3 := h.u (o := zE_h b + (41 + k)) (j := 2) (I (zE_h b) 14) (by omega) (by omega)
  refine ⟨_, ?_, F3⟩
  unfold j_X3_readPrice_95
  rw [g7, zw_g_t, hr, (zE_gH b).1, zw_g_t, (zE_sHru b k hk).2, zw_g_t, zw_let_e, zp_takeF F3.ne, Option.bind_some]
theorem zx_kindF {sw b : Bool} {I : zI} {J : zJ} {T : Nat → Nat} {n f e k : Nat} (hr : zE_R sw 7 2 = zE_h b) (h : zx_FF b T n I f e) (hk : k < 16) : ∃ I2, ((f_X3_kind 7 2 I (zE_R sw)).bind fun q15 => (if ¬ q15 = 24 then j_X3_readPrice_95 7 2 (zE_h b + (41 + k)) I (zE_R sw) J else (f_X3_take 7 2 24 1 I (zE_R sw)).bind fun q22 => (if q22.1 = 0 then j_X3_readPrice_95 7 2 (zE_h b + (41 + k)) q22.2 (zE_R sw) J else (f_X3_readCondition 7 2 q22.2 (zE_R sw) J).bind fun q24 => (j_X3_readPrice_95 7 2 (zE_h b + (41 + k)) q24 (zE_R sw) J)))) = some (I2, J) ∧ zx_FF b T n I2 f e := by
  rw [zp_kindF h.ne, Option.bind_some, if_pos (show ¬ (1 : Int32) = 24 by decide)]
  exact zx_95F hr h hk
theorem zx_prF {sw b : Bool} {I : zI} {J : zJ} {T : Nat → Nat} {n f e k : Nat} (hr : zE_R sw 7 2 = zE_h b) (h : zx_FF b T n I f e) (h9 : I (zE_h b) 9 = nI k) (hk : k < 8) : ∃ I2, zx_pr (zE_R sw) (zE_h b) I J = some (I2, J) ∧ zx_FF b T n I2 f e := by
  have hb := zE_hb b
  unfold zx_pr
  rw [zc_addPrice h9 hk, Option.bind_some]
  dsimp only
  rw [(zE_sHru b (8 + k) (by omega)).2, zw_g_t, zc_begin (by omega) _, Option.bind_some]
  have F1 := (((h.u (o := zE_h b) (j := 9) (nI (k + 1)) (by omega) (by omega)).u (o := zE_h b + (41 + (8 + k))) (j := 0) (zw_u I (zE_h b) 9 (nI (k + 1)) (zE_h b) 14) (by omega) (by omega)).u (o := zE_h b + (41 + (8 + k))) (j := 1) (zw_u I (zE_h b) 9 (nI (k + 1)) (zE_h b) 14) (by omega) (by omega)).u (o := zE_h b + (41 + (8 + k))) (j := 2) (zw_u I (zE_h b) 9 (nI (k + 1)) (zE_h b) 14) (by omega) (by omega)
  rw [zc_readSumF (m := 7) F1.c, Option.bind_some, zw_let_e]
  have F2 := F1.u (o := zE_h b + (41 + (8 + k))) (j := 1) (zw_u (zw_u (zw_u (zw_u I (zE_h b) 9 (nI (k + 1))) (zE_h b + (41 + (8 + k))) 0 (zw_u I (zE_h b) 9 (nI (k + 1)) (zE_h b) 14)) (zE_h b + (41 + (8 + k))) 1 (zw_u I (zE_h b) 9 (nI (k + 1)) (zE_h b) 14)) (zE_h b + (41 + (8 + k))) 2 (zw_u I (zE_h b) 9 (nI (k + 1)) (zE_h b) 14) (zE_h b) 14) (by omega) (by omega)
  exact zx_kindF hr F2 (by omega)
/-- its end -/
theorem zx_95C {sw b : Bool} {I I0 I4 : zI} {J : zJ} {T : Nat → Nat} {n t x k cl : Nat} {σ : zx_S} {e : List zr_C} {ls : List zr_L} (hr : zE_R sw 7 2 = zE_h b) (hK : zx_B σ) (h : zx_C b T n I J t σ) (ek : k = σ.2.1.2.1) (h8 : k < 8) (ht : t ≤ 500) (hcl : I (zE_h b) 14 = nI cl) (hcl5 : cl ≤ 500) (fK : ∀ a, a ≠ zE_h b → a ≠ zE_h b + (41 + (8 + k)) → I0 a = I a) (fKh : ∀ y, y ≠ 9 → I0 (zE_h b) y = I (zE_h b) y) (k9 : I0 (zE_h b) 9 = nI (k + 1)) (r0 : I0 (zE_h b + (41 + (8 + k))) 0 = nI cl) (r1 : I0 (zE_h b + (41 + (8 + k))) 1 = nI (cl + e.length)) (hE : zc_E b I0 I4 cl x (e.map zr_ck ++ zr_cc ls)) (hx : cl + (e.map zr_ck ++ zr_cc ls).length ≤ x) (hx5 : x ≤ 500) (hg : zt_go T n x) : ∃ I2, j_X3_readPrice_95 7 2 (zE_h b + (41 + (8 + k))) I4 (zE_R sw) J = some (I2, J) ∧ zx_RC b T n I2 J (zx_need (zt_K T n) 5 x (.inl (x + 1, (σ.1, zx_qp σ.2.1 e ls, σ.2.2.1, σ.2.2.2)))) := by
  have hb := zE_hb b
  have g7 : zw_gc 7 3 = true := by simp only [zE_gC]
  obtain ⟨⟨b0, b3, b4, b5⟩, a2, a3, a4, a5, a6, a7, a8, a9, -⟩ := id h
  obtain ⟨e1, e2, e3, e4, e5, e6, e7, e8⟩ := hE
  have ln : (e.map zr_ck ++ zr_cc ls).length = e.length + (zr_cc ls).length := by rw [List.length_append, List.length_map]
  rw [ln] at e5 hx
  have K7 : I0 7 = I 7 := fK 7 (by omega) (by omega)
  have M : zx_C b T n (zw_u I4 (zE_h b + (41 + (8 + k))) 2 (I4 (zE_h b) 14)) J x (σ.1, zx_qp σ.2.1 e ls, σ.2.2.1, σ.2.2.2) := by
    refine zx_ruleC (k := 8 + k) (e := e) (ls := ls) hK h ht hcl hcl5 (by omega) (fun j hj => ?_) (fun a x1 x2 x3 x4 x5 => ?_) ⟨?_, ?_, ?_, ?_⟩ (fun y y1 y2 y3 => ?_) ?_ ?_ ?_ (fun i hi => ?_) ?_ ?_ ?_ ?_ ?_
    · have hj : j < σ.2.1.1 ∨ (8 ≤ j ∧ j < 8 + (σ.2.1.2.1 + 1)) := hj
      show (j = 8 + k ∧ zx_up σ.2.1.2.2.1 (8 + σ.2.1.2.1) e j = e ∧ zx_up σ.2.1.2.2.2 (8 + σ.2.1.2.1) ls j = ls) ∨ (j ≠ 8 + k ∧ zr_has σ.2.1 j ∧ zx_up σ.2.1.2.2.1 (8 + σ.2.1.2.1) e j = σ.2.1.2.2.1 j ∧ zx_up σ.2.1.2.2.2 (8 + σ.2.1.2.1) ls j = σ.2.1.2.2.2 j)
      by_cases c : j = 8 + k
      · refine Or.inl ⟨c, ?_, ?_⟩
        · rw [c, ek, zx_up1]
        · rw [c, ek, zx_up1]
      · exact Or.inr ⟨c, by unfold zr_has; omega, zx_up2 _ _ (by omega), zx_up2 _ _ (by omega)⟩
    · rw [zw_u_off _ _ _ x5, e1 a x1 x2 x3 x4, fK a x2 x5]
    · rw [zw_u_off _ _ _ (by omega)]; exact e2
    · rw [zw_u_off _ _ _ (by omega)]; exact e3
    · rw [zw_u_off _ _ _ (by omega), e4 4 (by decide), K7]; exact b4
    · rw [zw_u_off _ _ _ (by omega), e4 5 (by decide), K7]; exact b5
    · rw [zw_u_off _ _ _ (by omega), e6 y y1, fKh y y3]
    · show zw_u I4 (zE_h b + (41 + (8 + k))) 2 (I4 (zE_h b) 14) (zE_h b) 7 = nI σ.2.1.1
      rw [zw_u_off _ _ _ (by omega), e6 7 (by decide), fKh 7 (by decide)]; exact a8
    · show zw_u I4 (zE_h b + (41 + (8 + k))) 2 (I4 (zE_h b) 14) (zE_h b) 9 = nI (σ.2.1.2.1 + 1)
      rw [zw_u_off _ _ _ (by omega), e6 9 (by decide), k9, ek]
    · rw [zw_u_off _ _ _ (by omega), e5, Nat.add_assoc]
    · rw [zw_u_off _ _ _ (by omega), zw_u_off _ _ _ (by omega), (e8 i hi).1, (e8 i hi).2, fK _ (by omega) (by omega), fK _ (by omega) (by omega)]
      exact ⟨rfl, rfl⟩
    · rw [zw_u_off _ _ _ (by omega), zw_u_off _ _ _ (by omega)]; exact e7
    · rw [zE_u2 _ _ (by omega), e1 _ (by omega) (by omega) (by omega) (by omega)]; exact r0
    · rw [zE_u2 _ _ (by omega), e1 _ (by omega) (by omega) (by omega) (by omega)]; exact r1
    · rw [zE_u1, e5, Nat.add_assoc]
    · omega
  obtain ⟨v, I5, s1, s2⟩ := zx_semiC (sw := sw) (⟨hK.1, hK.2.1, hK.2.2.1, hK.2.2.2.1, by show σ.2.1.2.1 + 1 ≤ 8; omega⟩ : zx_B (σ.1, zx_qp σ.2.1 e ls, σ.2.2.1, σ.2.2.2)) M hx5 hg
  refine ⟨I5, ?_, s2⟩
  unfold j_X3_readPrice_95
  rw [g7, zw_g_t, hr, (zE_gH b).1, zw_g_t, (zE_sHru b (8 + k) (by omega)).2, zw_g_t, zw_let_e, s1, Option.bind_some]
theorem zx_prC {sw b : Bool} {I : zI} {J : zJ} {T : Nat → Nat} {n t : Nat} {σ : zx_S} (hr : zE_R sw 7 2 = zE_h b) (hK : zx_B σ) (h : zx_C b T n I J t σ) (h8 : σ.2.1.2.1 < 8) (h1 : 1 ≤ t) (ht : t ≤ 500) (hg : zt_go T n t) : ∃ I2, zx_pr (zE_R sw) (zE_h b) I J = some (I2, J) ∧ zx_RC b T n I2 J (match zp_S (zt_K T n) (zp_V T n) 8 0 t with
    | .inr y => .inr y
    | .inl x => match zx_cd (zt_K T n) (zp_V T n) x.1 with
      | .inr y => .inr y
      | .inl z => zx_need (zt_K T n) 5 z.1 (.inl (z.1 + 1, (σ.1, zx_qp σ.2.1 x.2 z.2, σ.2.2.1, σ.2.2.2)))) := by
  have hb := zE_hb b
  obtain ⟨⟨b0, b3, b4, b5⟩, a2, a3, a4, a5, a6, a7, a8, a9, cl, a10, a11, a12⟩ := id h
  obtain ⟨k, ek⟩ : ∃ k, k = σ.2.1.2.1 := ⟨_, rfl⟩
  rw [← ek] at a9 h8
  unfold zx_pr
  rw [zc_addPrice a9 h8, Option.bind_some]
  dsimp only
  have w14 : zw_u I (zE_h b) 9 (nI (k + 1)) (zE_h b) 14 = nI cl := by rw [zE_u2 _ _ (by omega)]; exact a11
  rw [(zE_sHru b (8 + k) (by omega)).2, zw_g_t, w14, zc_begin (by omega) _, Option.bind_some]
  obtain ⟨K2, eK⟩ : ∃ K2, K2 = zw_u (zw_u (zw_u (zw_u I (zE_h b) 9 (nI (k + 1))) (zE_h b + (41 + (8 + k))) 0 (nI cl)) (zE_h b + (41 + (8 + k))) 1 (nI cl)) (zE_h b + (41 + (8 + k))) 2 (nI cl) := ⟨_, rfl⟩
  rw [← eK]
  have fK : ∀ a, a ≠ zE_h b → a ≠ zE_h b + (41 + (8 + k)) → K2 a = I a := fun a x1 x2 => by rw [eK, zw_u_off _ _ _ x2, zw_u_off _ _ _ x2, zw_u_off _ _ _ x2, zw_u_off _ _ _ x1]
  have fKh : ∀ y, y ≠ 9 → K2 (zE_h b) y = I (zE_h b) y := fun y hy => by rw [eK, zw_u_off _ _ _ (by omega), zw_u_off _ _ _ (by omega), zw_u_off _ _ _ (by omega), zE_u2 _ _ (by omega)]
  have K9 : K2 (zE_h b) 9 = nI (k + 1) := by rw [eK, zw_u_off _ _ _ (by omega), zw_u_off _ _ _ (by omega), zw_u_off _ _ _ (by omega), zE_u1]
  have K7 : K2 7 = I 7 := fK 7 (by omega) (by omega)
  have R0 : K2 (zE_h b + (41 + (8 + k))) 0 = nI cl := by rw [eK, zE_u2 _ _ (by omega), zE_u2 _ _ (by omega), zE_u1]
  have hX2 : zp_X T n K2 J := zp_X_tr a2 (fK 4 (by omega) (by omega)) (fK 5 (by omega) (by omega)) rfl
  have E0 : zc_E b K2 K2 cl t [] := ⟨fun _ _ _ _ _ => rfl, by rw [K7]; exact b0, by rw [K7]; exact b3, fun _ _ => rfl, by rw [fKh 14 (by decide), a11]; rfl, fun _ _ => rfl, trivial, fun _ _ => ⟨rfl, rfl⟩⟩
  obtain ⟨K3, q1, q2⟩ := zc_readSum (sw := sw) hr hX2 8 0 rfl (by decide) K2 cl t [] E0 ht hg (by show cl + 0 ≤ t; omega)
  have q1 : r_X3_readSum 8 7 2 0 K2 (zE_R sw) J = some K3 := q1
  rw [q1, Option.bind_some, zw_let_e]
  have so := zp_S_ok (T := T) (n := n) (V := zp_V T n) 8 0 t ht hg
  cases hS : zp_S (zt_K T n) (zp_V T n) 8 0 t with
  | inr y =>
    rw [hS] at q2
    have q2 : zc_F b T n K2 K3 y.1 y.2 := q2
    have F3 := q2.ff.u (o := zE_h b + (41 + (8 + k))) (j := 1) (K3 (zE_h b) 14) (by omega) (by omega)
    exact zx_kindF hr F3 (by omega)
  | inl x =>
    rw [hS] at q2 so
    obtain ⟨s1, s2, s3, s4⟩ := so
    have q2 : zc_E b K2 K3 cl x.1 (x.2.map zr_ck) := q2
    have lm : (x.2.map zr_ck).length = x.2.length := List.length_map ..
    have e14 : K3 (zE_h b) 14 = nI (cl + x.2.length) := by rw [q2.2.2.2.2.1, lm]
    rw [e14]
    have E4 := q2.w (o := zE_h b + (41 + (8 + k))) (by omega) (by omega) (by omega) (by omega) 1 (nI (cl + x.2.length))
    obtain ⟨L2, eL⟩ : ∃ L2, L2 = zw_u K2 (zE_h b + (41 + (8 + k))) 1 (nI (cl + x.2.length)) := ⟨_, rfl⟩
    obtain ⟨L3, eL3⟩ : ∃ L3, L3 = zw_u K3 (zE_h b + (41 + (8 + k))) 1 (nI (cl + x.2.length)) := ⟨_, rfl⟩
    rw [← eL, ← eL3] at E4
    rw [← eL3]
    have gK : ∀ a, a ≠ zE_h b → a ≠ zE_h b + (41 + (8 + k)) → L2 a = I a := fun a x1 x2 => by rw [eL, zw_u_off _ _ _ x2]; exact fK a x1 x2
    have gKh : ∀ y, y ≠ 9 → L2 (zE_h b) y = I (zE_h b) y := fun y hy => by rw [eL, zw_u_off _ _ _ (by omega)]; exact fKh y hy
    have G9 : L2 (zE_h b) 9 = nI (k + 1) := by rw [eL, zw_u_off _ _ _ (by omega)]; exact K9
    have G0 : L2 (zE_h b + (41 + (8 + k))) 0 = nI cl := by rw [eL, zE_u2 _ _ (by omega)]; exact R0
    have G1 : L2 (zE_h b + (41 + (8 + k))) 1 = nI (cl + x.2.length) := by rw [eL, zE_u1]
    have hX3 : zp_X T n L2 J := zp_X_tr a2 (gK 4 (by omega) (by omega)) (gK 5 (by omega) (by omega)) rfl
    have kd := E4.kind (sw := sw) hX3 s2 s3
    have kb := zp_K hX3 x.1
    have co := zx_cd_ok (T := T) (n := n) s2 s3
    rw [kd, Option.bind_some]
    dsimp only
    unfold zx_cd at co ⊢
    by_cases c : zt_K T n x.1 = 24
    · rw [if_neg (show ¬ ¬ nI (zt_K T n x.1) = (24 : Int32) from fun r => r (by rw [c]; rfl)), if_pos c]
      rw [if_pos c] at co
      rcases E4.take (sw := sw) (k := 24) (kv := 24) (rv := 1) (rm := true) hX3 s2 s3 (by omega) (by decide) (by decide) rfl rfl with ⟨-, -, u3, u4, L4, u5, u6⟩ | ⟨L4, u2, u3, u4⟩
      · rw [if_pos u3] at co ⊢
        rw [u5, Option.bind_some, if_neg zE_10]
        obtain ⟨L5, v1, v2⟩ := zc_condition (sw := sw) hr hX3 u6 (by omega) (by omega) u4 (by omega)
        rw [v1, Option.bind_some]
        cases hC : zp_Cn (zt_K T n) (zp_V T n) 502 (x.1 + 1) true with
        | inr y =>
          rw [hC] at v2
          have v2 : zc_F b T n L2 L5 y.1 y.2 := v2
          exact zx_95F hr v2.ff (by omega)
        | inl z =>
          rw [hC] at v2 co
          obtain ⟨o1, o2, o3, o4, o5⟩ := co
          obtain ⟨v3, -, -, v4⟩ := v2
          exact zx_95C hr hK h ek h8 ht a11 (by omega) gK gKh G9 G0 G1 v3 v4 o2 o3
      · rw [if_neg (fun r => u2 ⟨c, rfl, r⟩)]
        rw [u3, Option.bind_some, if_pos rfl]
        rw [if_pos c] at u4
        exact zx_95F hr u4.ff (by omega)
    · rw [if_pos (show ¬ nI (zt_K T n x.1) = (24 : Int32) from zr_ne (b := 24) c (by omega) (by decide)), if_neg c]
      have E5 : zc_E b L2 L3 cl x.1 (x.2.map zr_ck ++ zr_cc []) := by
        show zc_E b L2 L3 cl x.1 (x.2.map zr_ck ++ [])
        rw [List.append_nil]
        exact E4
      exact zx_95C hr hK h ek h8 ht a11 (by omega) gK gKh G9 G0 G1 E5 (by show cl + (x.2.map zr_ck ++ []).length ≤ x.1; rw [List.append_nil]; omega) s2 s3
theorem zx_priceC {sw b : Bool} {I : zI} {J : zJ} {T : Nat → Nat} {n t : Nat} {σ : zx_S} (hr : zE_R sw 7 2 = zE_h b) (hP : zx_P T n t σ) (h : zx_C b T n I J t σ) (hk : zt_K T n t = 22) : ∃ I2 J2, f_X3_readPrice 7 2 I (zE_R sw) J = some (I2, J2) ∧ zx_RC b T n I2 J2 (zx_price T n t σ) := by
  have hb := zE_hb b
  have g7 : zw_gc 7 3 = true := by simp only [zE_gC]
  have gh := (zE_gH b).1
  obtain ⟨p1, p2, p3, p4, p5, p6, p7, p8, p9, p10, -⟩ := id hP
  have hB : zx_B σ := ⟨p3, p4, p5, p6, p7⟩
  have a9 := h.2.2.2.2.2.2.2.2.1
  have hd : f_X3_readPrice 7 2 I (zE_R sw) J = (f_X3_take 7 2 22 (zr_b (decide (σ.2.1.2.1 < 8))) I (zE_R sw)).bind fun q5 => (if ¬ q5.1 = 0 then ((f_X3_takeName 7 2 q5.2 (zE_R sw) J).bind fun q8 => zx_pr (zE_R sw) (zE_h b) q8.1 q8.2) else some (q5.2, J)) := by
    unfold f_X3_readPrice j_X3_readPrice_21 zx_pr
    simp only [g7, zw_g_t, hr, gh, a9]
    by_cases c : σ.2.1.2.1 < 8
    · rw [if_neg (show ¬ (8 : Int32) ≤ nI σ.2.1.2.1 from nI_ge (b := 8) c (by decide)), decide_eq_true c]; rfl
    · rw [if_pos (show (8 : Int32) ≤ nI σ.2.1.2.1 from nI_le (a := 8) (by omega) (by omega)), decide_eq_false c]; rfl
  rw [hd]
  unfold zx_price
  rcases zx_takeC (sw := sw) (k := 22) (kv := 22) (rv := zr_b (decide (σ.2.1.2.1 < 8))) (rm := decide (σ.2.1.2.1 < 8)) hB h p1 p2 (by decide) rfl rfl with ⟨-, t2, t3, I1, t4, t5⟩ | ⟨t2, I1, t4, t5, -⟩
  · have c8 : σ.2.1.2.1 < 8 := of_decide_eq_true t2
    rw [t4, Option.bind_some, if_pos (show σ.2.1.2.1 < 8 ∧ t < 500 from ⟨c8, t3⟩)]
    dsimp only
    rw [if_pos zE_10]
    have g1 : zt_go T n (t + 1) := zp_go p2 (by omega) (by omega)
    rw [zx_need]
    rcases zx_nameC (sw := sw) hr hB p9 (by omega) (zx_qk_up p10 (show t ≤ t + 1 by omega)) t5 (by omega) g1 with ⟨m1, m2, I2, J2, m3, m4⟩ | ⟨m1, I2, m3, m4, m5⟩
    · have g2 : zt_go T n (t + 2) := zp_go g1 (by omega) (by omega)
      have hB2 : zx_B (σ.1, σ.2.1, (t + 1) :: σ.2.2.1, zx_qn T n σ.2.2.1 σ.2.2.2 (t + 1)) := hB
      rw [m3, Option.bind_some, if_pos (show zt_K T n (t + 1) = 2 ∧ t + 1 < 500 from ⟨m1, m2⟩)]
      dsimp only
      obtain ⟨I4, r1, r2⟩ := zx_prC (sw := sw) hr hB2 m4 c8 (by omega) (by omega) g2
      exact ⟨I4, J2, r1, r2⟩
    · rw [m3, Option.bind_some, if_neg m1]
      dsimp only
      have e9 : I2 (zE_h b) 9 = nI σ.2.1.2.1 := by rw [m5 _ (by omega)]; exact t5.2.2.2.2.2.2.2.2.1
      obtain ⟨I4, r1, r2⟩ := zx_prF (sw := sw) (J := J) hr m4 e9 c8
      exact ⟨I4, J, r1, r2⟩
  · rw [t4, Option.bind_some]
    dsimp only
    rw [if_neg (fun r => r rfl)]
    have c : ¬ (σ.2.1.2.1 < 8 ∧ t < 500) := fun r => t2 ⟨hk, decide_eq_true r.1, r.2⟩
    rw [if_pos hk] at t5
    rw [if_neg c]
    exact ⟨I1, J, rfl, t5⟩
