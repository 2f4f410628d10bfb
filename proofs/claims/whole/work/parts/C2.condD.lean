/-! ===== a whole condition, as the class reads it ===== -/
/-- what a condition leaves in the class -/
def zc_RD (b : Bool) (T : Nat → Nat) (n : Nat) (I0 I : zI) (cl : Nat) (cc : List zr_C) (ω : zp_OC) : Prop := match ω with
  | .inl x => zc_E b I0 I cl x.1 (cc ++ zr_cc x.2) ∧ x.1 ≤ 500 ∧ zt_go T n x.1 ∧ cl + (cc ++ zr_cc x.2).length ≤ x.1
  | .inr y => zc_F b T n I0 I y.1 y.2
theorem zc_literalF {sw b : Bool} {I0 I : zI} {J : zJ} {T : Nat → Nat} {n f e : Nat} (hr : zE_R sw 7 2 = zE_h b) (h : zc_F b T n I0 I f e) : ∃ I2, f_X3_readLiteral 7 2 I (zE_R sw) J = some I2 ∧ zc_F b T n I0 I2 f e := by
  have g7 : zw_gc 7 3 = true := by simp only [zE_gC]
  have nz : zw_it (s_X3_readLiteral_4 7 2 (zE_R sw) J) 1000000 (0, 0, I) = some (0, I) := by
    refine zE_it0 999999 ?_
    unfold s_X3_readLiteral_4
    dsimp only
    rw [if_neg (show ¬ (500 : Int32) ≤ 0 by decide), g7, zw_g_t, zp_kindF h.ne, Option.bind_some, if_pos (show ¬ (1 : Int32) = 27 by decide)]
  unfold f_X3_readLiteral
  rw [nz, Option.bind_some]
  exact zc_lit46F hr h 0
theorem zc_conditionF {sw b : Bool} {I0 I : zI} {J : zJ} {T : Nat → Nat} {n f e : Nat} (hr : zE_R sw 7 2 = zE_h b) (h : zc_F b T n I0 I f e) : ∃ I2, f_X3_readCondition 7 2 I (zE_R sw) J = some I2 ∧ zc_F b T n I0 I2 f e := by
  obtain ⟨I1, l1, l2⟩ := zc_literalF (sw := sw) (J := J) hr h
  obtain ⟨I2, r1, r2⟩ := zc_inF (J := J) (M := 999999) (N := 999998) (w := false) (i := 0) (k := 0) hr l2
  have e1 : zw_it (s_X3_readCondition_7 7 2 (zE_R sw) J) 1000000 (0, 1, 0, I) = zc_in (zE_R sw) J 1000000 999999 false 0 0 I1 := zc_s7 (w := false) (i := 0) 999999 (by decide) l1
  have r1 : zc_in (zE_R sw) J 1000000 999999 false 0 0 I1 = some I2 := r1
  refine ⟨I2, ?_, r2⟩
  unfold f_X3_readCondition
  rw [e1, r1, Option.bind_some]
theorem zc_condition {sw b : Bool} {I0 I : zI} {J : zJ} {T : Nat → Nat} {n cl t : Nat} {cc : List zr_C} (hr : zE_R sw 7 2 = zE_h b) (hX : zp_X T n I0 J) (h : zc_E b I0 I cl t cc) (h1 : 1 ≤ t) (ht : t ≤ 500) (hg : zt_go T n t) (hc : cl + cc.length ≤ t) : ∃ I2, f_X3_readCondition 7 2 I (zE_R sw) J = some I2 ∧ zc_RD b T n I0 I2 cl cc (zp_Cn (zt_K T n) (zp_V T n) 502 t true) := by
  obtain ⟨I1, l1, l2⟩ := zc_literal (sw := sw) (J := J) hr hX h ht hg hc
  have lo := zp_Lt_ok (T := T) (n := n) ht hg
  have e1 : zw_it (s_X3_readCondition_7 7 2 (zE_R sw) J) 1000000 (0, 1, 0, I) = zc_in (zE_R sw) J 1000000 999999 false 0 0 I1 := zc_s7 (w := false) (i := 0) 999999 (by decide) l1
  unfold f_X3_readCondition
  rw [e1]
  cases hL : zp_Lt (zt_K T n) (zp_V T n) t with
  | inr y =>
    rw [hL] at l2
    have l2 : zc_F b T n I0 I1 y.1 y.2 := l2
    obtain ⟨I2, r1, r2⟩ := zc_inF (J := J) (M := 999999) (N := 999998) (w := false) (i := 0) (k := 0) hr l2
    have r1 : zc_in (zE_R sw) J 1000000 999999 false 0 0 I1 = some I2 := r1
    refine ⟨I2, by rw [r1, Option.bind_some], ?_⟩
    rw [zp_Cn, hL]
    exact r2
  | inl r =>
    rw [hL] at l2 lo
    obtain ⟨u1, u2, u3, u4, u5, -⟩ := lo
    have l2 : zc_E b I0 I1 cl r.1 (cc ++ zr_lc (true, r.2)) := l2
    have ll := zr_lc_len (true, r.2)
    have l3 : (cc ++ zr_lc (true, r.2)).length = cc.length + (zr_lc (true, r.2)).length := List.length_append
    dsimp only at ll
    obtain ⟨I2, r1, r2⟩ := zc_rest (sw := sw) (J := J) hr hX 501 r.1 0 0 1000000 999999 I1 _ false (by omega) (by omega) (by omega) (by omega) (by omega) (by omega) (by omega) l2 u2 u3 (by rw [if_neg (by decide), l3]; omega) (by omega)
    have r1 : zc_in (zE_R sw) J 1000000 999999 false 0 0 I1 = some I2 := r1
    refine ⟨I2, by rw [r1, Option.bind_some], ?_⟩
    rw [zp_Cn_eq hL]
    cases hR : zp_Cr (zt_K T n) (zp_V T n) 501 r.1 with
    | inr y => rw [hR] at r2; exact r2
    | inl x =>
      rw [hR] at r2
      have ec : cc ++ zr_lc (true, r.2) ++ zr_cr false x.2 = cc ++ zr_cc ((true, r.2) :: x.2) := by
        show _ = cc ++ (zr_lc (true, r.2) ++ zr_cr false x.2)
        rw [List.append_assoc]
      unfold zc_RC at r2
      unfold zc_RD
      dsimp only at r2 ⊢
      rw [← ec]
      exact r2
