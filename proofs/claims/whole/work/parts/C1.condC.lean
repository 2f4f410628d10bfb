/-! ===== conditions: what they are, and how the class reads them ===== -/
abbrev zp_OC : Type := (Nat × List zr_L) ⊕ (Nat × Nat)
/-- from a literal on; o: an 'or' stands before it -/
def zp_Cn (K V : Nat → Nat) : Nat → Nat → Bool → zp_OC
  | 0, t, _ => .inr (1, t)
  | f + 1, t, o => match zp_Lt K V t with
    | .inr y => .inr y
    | .inl r => if K r.1 = 26 ∨ K r.1 = 25 then (if r.1 < 500 then (match zp_Cn K V f (r.1 + 1) (decide (K r.1 = 25)) with
        | .inr y => .inr y
        | .inl x => .inl (x.1, (o, r.2) :: x.2)) else .inr (2, r.1)) else .inl (r.1, [(o, r.2)])
/-- from behind a literal on -/
def zp_Cr (K V : Nat → Nat) (f t : Nat) : zp_OC := if K t = 26 ∨ K t = 25 then (if t < 500 then zp_Cn K V f (t + 1) (decide (K t = 25)) else .inr (2, t)) else .inl (t, [])
theorem zp_Cn_eq {K V : Nat → Nat} {f t : Nat} {o : Bool} {r : Nat × (Bool × Nat × List zr_C × List zr_C)} (h : zp_Lt K V t = .inl r) : zp_Cn K V (f + 1) t o = (match zp_Cr K V f r.1 with
    | .inr y => .inr y
    | .inl x => .inl (x.1, (o, r.2) :: x.2)) := by
  rw [zp_Cn, h]
  unfold zp_Cr
  dsimp only
  by_cases c1 : K r.1 = 26 ∨ K r.1 = 25
  · rw [if_pos c1, if_pos c1]
    by_cases c2 : r.1 < 500
    · rw [if_pos c2, if_pos c2]
    · rw [if_neg c2, if_neg c2]
  · rw [if_neg c1, if_neg c1]
/-- the class's entries for what is behind a literal; w: an 'or' waits -/
def zc_RC (b : Bool) (T : Nat → Nat) (n : Nat) (I0 I : zI) (cl : Nat) (cc : List zr_C) (w : Bool) (ω : zp_OC) : Prop := match ω with
  | .inl x => zc_E b I0 I cl x.1 (cc ++ zr_cr w x.2) ∧ x.1 ≤ 500 ∧ zt_go T n x.1 ∧ cl + (cc ++ zr_cr w x.2).length ≤ x.1
  | .inr y => zc_F b T n I0 I y.1 y.2
def zc_ck (R : zR) (J : zJ) (N : Nat) (x : Option ((Int32 × Int32 × Int32 × zI) ⊕ zI)) : Option zI := x.bind fun z => match z with
  | .inl s => zw_it (s_X3_readCondition_7 7 2 R J) N s
  | .inr r => some r
/-- the rest of a round of the outer loop -/
def zc_in (R : zR) (J : zJ) (M N : Nat) (w : Bool) (i k : Int32) (I : zI) : Option zI := (zw_it (s_X3_readCondition_27 7 2 (zr_b w) i R J) M (k, I)).bind fun q => zc_ck R J N (j_X3_readCondition_75_7 7 2 (zr_b w) i q R J)
theorem zc_s7 {R : zR} {J : zJ} {I I1 : zI} {w : Bool} {i : Int32} (N : Nat) (hi : ¬ (500 : Int32) ≤ i) (hl : f_X3_readLiteral 7 2 I R J = some I1) : zw_it (s_X3_readCondition_7 7 2 R J) (N + 1) (zr_b w, 1, i, I) = zc_in R J 1000000 N w i 0 I1 := by
  have st : s_X3_readCondition_7 7 2 R J (zr_b w, 1, i, I) = (zw_it (s_X3_readCondition_27 7 2 (zr_b w) i R J) 1000000 (0, I1)).bind fun q14 => (j_X3_readCondition_75_7 7 2 (zr_b w) i q14 R J) := by
    unfold s_X3_readCondition_7
    dsimp only
    rw [if_neg zE_10, if_neg hi, show zw_gc 7 3 = true by simp only [zE_gC], zw_g_t, hl, Option.bind_some]
  show (s_X3_readCondition_7 7 2 R J (zr_b w, 1, i, I)).bind _ = _
  rw [st]
  unfold zc_in
  cases zw_it (s_X3_readCondition_27 7 2 (zr_b w) i R J) 1000000 (0, I1) with
  | none => rfl
  | some q14 =>
    rw [Option.bind_some, Option.bind_some]
    unfold zc_ck
    cases j_X3_readCondition_75_7 7 2 (zr_b w) i q14 R J with
    | none => rfl
    | some z => cases z <;> rfl
theorem zc_s7e {R : zR} {J : zJ} {I : zI} {v i : Int32} (N : Nat) : zw_it (s_X3_readCondition_7 7 2 R J) (N + 1) (v, 0, i, I) = some I := by
  refine zE_it0 N ?_
  unfold s_X3_readCondition_7
  dsimp only
  rw [if_pos rfl]
/-- behind a fault -/
theorem zc_inF {sw b : Bool} {I0 I : zI} {J : zJ} {T : Nat → Nat} {n f e M N : Nat} {w : Bool} {i k : Int32} (hr : zE_R sw 7 2 = zE_h b) (h : zc_F b T n I0 I f e) : ∃ I2, zc_in (zE_R sw) J (M + 1) (N + 1) w i k I = some I2 ∧ zc_F b T n I0 I2 f e := by
  have g7 : zw_gc 7 3 = true := by simp only [zE_gC]
  have gh := (zE_gH b).1
  have inn : zw_it (s_X3_readCondition_27 7 2 (zr_b w) i (zE_R sw) J) (M + 1) (k, I) = some I := by
    refine zE_it0 M ?_
    unfold s_X3_readCondition_27
    dsimp only
    by_cases c : (500 : Int32) ≤ k
    · rw [if_pos c]
    · rw [if_neg c, g7, zw_g_t, zp_kindF h.ne, Option.bind_some, if_pos (show ¬ (1 : Int32) = 26 by decide)]
  have j89 : ∀ K, zc_F b T n I0 K f e → zc_ck (zE_R sw) J (N + 1) (j_X3_readCondition_89_7 7 2 i K (zE_R sw) J) = some K := by
    intro K hK
    unfold j_X3_readCondition_89_7 j_X3_readCondition_116_7 j_X3_readCondition_117_7
    rw [g7, zw_g_t, zp_kindF hK.ne, Option.bind_some, if_pos (show ¬ (1 : Int32) = 25 by decide), zw_let_e]
    exact zc_s7e (R := zE_R sw) (J := J) N
  unfold zc_in
  rw [inn, Option.bind_some]
  unfold j_X3_readCondition_75_7
  cases w
  · rw [if_pos (show zr_b false = 0 from rfl), j89 I h]
    exact ⟨I, rfl, h⟩
  · obtain ⟨I2, p1, p2⟩ := h.add (sw := sw) 25 0
    rw [if_neg (show ¬ zr_b true = 0 by decide), g7, zw_g_t, hr, gh, zw_g_t, p1, Option.bind_some, j89 I2 p2]
    exact ⟨I2, rfl, p2⟩
theorem zr_lc_len (l : zr_L) : (zr_lc l).length = l.2.2.2.1.length + l.2.2.2.2.length + 1 + (if l.2.1 = true then 1 else 0) := by
  unfold zr_lc
  simp only [List.length_append, List.length_map, List.length_cons]
  split
  · simp only [List.length_cons, List.length_nil]; omega
  · simp only [List.length_nil]; omega
theorem zc_rest {sw b : Bool} {I0 : zI} {J : zJ} {T : Nat → Nat} {n cl : Nat} (hr : zE_R sw 7 2 = zE_h b) (hX : zp_X T n I0 J) : ∀ (f t k i M N : Nat) (I : zI) (cc : List zr_C) (w : Bool), 501 - t ≤ f → k ≤ t → i ≤ t → k + 1 ≤ 500 → i + 1 ≤ 500 → 502 - t ≤ M → 502 - t ≤ N → zc_E b I0 I cl t cc → t ≤ 500 → zt_go T n t → cl + cc.length + (if w = true then 1 else 0) ≤ t → (k + 4 ≤ t ∧ i + 4 ≤ t) → ∃ I2, zc_in (zE_R sw) J M N w (nI i) (nI k) I = some I2 ∧ zc_RC b T n I0 I2 cl cc w (zp_Cr (zt_K T n) (zp_V T n) f t)
  | 0, t, k, i, M, N, I, cc, w, hfu, hk, hi, hk5, hi5, hM, hN, h, ht, hg, hc, hki => by omega
  | f + 1, t, k, i, M, N, I, cc, w, hfu, hk, hi, hk5, hi5, hM, hN, h, ht, hg, hc, hki => by
    have g7 : zw_gc 7 3 = true := by simp only [zE_gC]
    have gh := (zE_gH b).1
    have kb := zp_K hX t
    have hc' : cl + cc.length ≤ t := by split at hc <;> omega
    have kd := h.kind (sw := sw) hX ht hg
    obtain ⟨M, rfl⟩ : ∃ M', M = M' + 2 := ⟨M - 2, by omega⟩
    obtain ⟨N, rfl⟩ : ∃ N', N = N' + 2 := ⟨N - 2, by omega⟩
    have k5 : ¬ (500 : Int32) ≤ nI k := nI_ge (b := 500) (by omega) (by decide)
    unfold zp_Cr
    by_cases c26 : zt_K T n t = 26
    · -- and
      rw [if_pos (Or.inl c26)]
      have hd : s_X3_readCondition_27 7 2 (zr_b w) (nI i) (zE_R sw) J (nI k, I) = (f_X3_take 7 2 26 1 I (zE_R sw)).bind fun q9 => ((f_X3_readLiteral 7 2 q9.2 (zE_R sw) J).bind fun q10 => ((f_X1_addCode (zE_h b) 26 0 q10 (zE_R sw)).bind fun q12 => (some (.inl (nI (k + 1), q12))))) := by
        unfold s_X3_readCondition_27
        dsimp only
        rw [if_neg k5, g7, zw_g_t, kd, Option.bind_some, if_neg (show ¬ ¬ nI (zt_K T n t) = (26 : Int32) from fun r => r (by rw [c26]; rfl)), hr]
        simp only [gh, zw_g_t, zw_let_e, nI_1]
      have step : ∀ I3, s_X3_readCondition_27 7 2 (zr_b w) (nI i) (zE_R sw) J (nI k, I) = some (.inl (nI (k + 1), I3)) → zc_in (zE_R sw) J (M + 2) (N + 2) w (nI i) (nI k) I = zc_in (zE_R sw) J (M + 1) (N + 2) w (nI i) (nI (k + 1)) I3 := by
        intro I3 h3
        unfold zc_in
        rw [zE_it1 (M + 1) h3]
      rcases h.take (sw := sw) (k := 26) (kv := 26) (rv := 1) (rm := true) hX ht hg (by omega) (by decide) (by decide) rfl rfl with ⟨-, -, q3, q4, I2, q5, q6⟩ | ⟨I2, q2, q3, q4⟩
      · rw [if_pos q3]
        obtain ⟨I3, l1, l2⟩ := zc_literal (sw := sw) (J := J) hr hX q6 (by omega) q4 (by omega)
        have lo := zp_Lt_ok (T := T) (n := n) (show t + 1 ≤ 500 by omega) q4
        have d25 : decide (zt_K T n t = 25) = false := decide_eq_false (by omega)
        rw [d25]
        cases hL : zp_Lt (zt_K T n) (zp_V T n) (t + 1) with
        | inr y =>
          rw [hL] at l2
          have l2 : zc_F b T n I0 I3 y.1 y.2 := l2
          obtain ⟨I4, p1, p2⟩ := l2.add (sw := sw) 26 0
          rw [q5, Option.bind_some, l1, Option.bind_some, p1, Option.bind_some] at hd
          obtain ⟨I5, r1, r2⟩ := zc_inF (J := J) (M := M) (N := N + 1) (w := w) (i := nI i) (k := nI (k + 1)) hr p2
          refine ⟨I5, (step I4 hd).trans r1, ?_⟩
          rw [zp_Cn, hL]
          exact r2
        | inl r =>
          rw [hL] at l2 lo
          obtain ⟨o1, o2, o3, o4, o5, -⟩ := lo
          have l2 : zc_E b I0 I3 cl r.1 (cc ++ zr_lc (true, r.2)) := l2
          have ll := zr_lc_len (true, r.2)
          have l3 : (cc ++ zr_lc (true, r.2)).length = cc.length + (zr_lc (true, r.2)).length := List.length_append
          dsimp only at ll
          obtain ⟨I4, p1, p2⟩ := l2.add (sw := sw) (by omega) 26 0
          have p1 : f_X1_addCode (zE_h b) 26 0 I3 (zE_R sw) = some I4 := p1
          rw [q5, Option.bind_some, l1, Option.bind_some, p1, Option.bind_some] at hd
          have l4 : (cc ++ zr_lc (true, r.2) ++ [(26, 0)]).length = cc.length + (zr_lc (true, r.2)).length + 1 := by rw [List.length_append, l3]; rfl
          obtain ⟨I5, r1, r2⟩ := zc_rest hr hX f r.1 (k + 1) i (M + 1) (N + 2) I4 _ w (by omega) (by omega) (by omega) (by omega) hi5 (by omega) (by omega) p2 o2 o3 (by
            rw [l4]
            by_cases hw : w = true
            · rw [if_pos hw] at hc ⊢; omega
            · rw [if_neg hw] at hc ⊢; omega) (by omega)
          refine ⟨I5, (step I4 hd).trans r1, ?_⟩
          rw [zp_Cn_eq hL]
          cases hR : zp_Cr (zt_K T n) (zp_V T n) f r.1 with
          | inr y => rw [hR] at r2; exact r2
          | inl x =>
            rw [hR] at r2
            have ec : cc ++ zr_lc (true, r.2) ++ [(26, 0)] ++ zr_cr w x.2 = cc ++ zr_cr w ((false, r.2) :: x.2) := by
              show _ = cc ++ (zr_lc (false, r.2) ++ ((26, 0) :: zr_cr w x.2))
              rw [List.append_assoc, List.append_assoc]
              rfl
            unfold zc_RC at r2 ⊢
            dsimp only at r2 ⊢
            rw [← ec]
            exact r2
      · rw [if_neg (fun r => q2 ⟨c26, rfl, r⟩)]
        rw [if_pos c26] at q4
        -- the literal behind the fault
        have lf : ∃ I3, f_X3_readLiteral 7 2 I2 (zE_R sw) J = some I3 ∧ zc_F b T n I0 I3 2 t := by
          unfold f_X3_readLiteral
          have nz : zw_it (s_X3_readLiteral_4 7 2 (zE_R sw) J) 1000000 (0, 0, I2) = some (0, I2) := by
            refine zE_it0 999999 ?_
            unfold s_X3_readLiteral_4
            dsimp only
            rw [if_neg (show ¬ (500 : Int32) ≤ 0 by decide), g7, zw_g_t, zp_kindF q4.ne, Option.bind_some, if_pos (show ¬ (1 : Int32) = 27 by decide)]
          rw [nz, Option.bind_some]
          exact zc_lit46F hr q4 0
        obtain ⟨I3, l1, l2⟩ := lf
        obtain ⟨I4, p1, p2⟩ := l2.add (sw := sw) 26 0
        rw [q3, Option.bind_some, l1, Option.bind_some, p1, Option.bind_some] at hd
        obtain ⟨I5, r1, r2⟩ := zc_inF (J := J) (M := M) (N := N + 1) (w := w) (i := nI i) (k := nI (k + 1)) hr p2
        exact ⟨I5, (step I4 hd).trans r1, r2⟩
    · -- the group ends
      have inn : zw_it (s_X3_readCondition_27 7 2 (zr_b w) (nI i) (zE_R sw) J) (M + 2) (nI k, I) = some I := by
        refine zE_it0 (M + 1) ?_
        unfold s_X3_readCondition_27
        dsimp only
        rw [if_neg k5, g7, zw_g_t, kd, Option.bind_some, if_pos (show ¬ nI (zt_K T n t) = (26 : Int32) from zr_ne (b := 26) c26 (by omega) (by decide))]
      -- the 'or' that waits comes out
      have out : ∃ I2, j_X3_readCondition_75_7 7 2 (zr_b w) (nI i) I (zE_R sw) J = j_X3_readCondition_89_7 7 2 (nI i) I2 (zE_R sw) J ∧ zc_E b I0 I2 cl t (cc ++ (if w = true then [(25, 0)] else [])) := by
        unfold j_X3_readCondition_75_7
        cases w
        · refine ⟨I, by rw [if_pos (show zr_b false = 0 from rfl)], ?_⟩
          rw [if_neg (by decide), List.append_nil]
          exact h
        · rw [if_pos rfl] at hc
          obtain ⟨I2, p1, p2⟩ := h.add (sw := sw) (by omega) 25 0
          have p1 : f_X1_addCode (zE_h b) 25 0 I (zE_R sw) = some I2 := p1
          refine ⟨I2, by rw [if_neg (show ¬ zr_b true = 0 by decide), g7, zw_g_t, hr, gh, zw_g_t, p1, Option.bind_some], ?_⟩
          rw [if_pos rfl]
          exact p2
      obtain ⟨I2, o1, o2⟩ := out
      obtain ⟨cw, ecw⟩ : ∃ cw, cw = cc ++ (if w = true then [((25, 0) : zr_C)] else []) := ⟨_, rfl⟩
      rw [← ecw] at o2
      have lcw : cl + cw.length ≤ t := by
        rw [ecw, List.length_append]
        cases w
        · rw [if_neg (by decide)] at hc ⊢; show cl + (cc.length + 0) ≤ t; omega
        · rw [if_pos rfl] at hc ⊢; show cl + (cc.length + 1) ≤ t; omega
      have kd2 := o2.kind (sw := sw) hX ht hg
      have hin : zc_in (zE_R sw) J (M + 2) (N + 2) w (nI i) (nI k) I = zc_ck (zE_R sw) J (N + 2) (j_X3_readCondition_89_7 7 2 (nI i) I2 (zE_R sw) J) := by
        unfold zc_in
        rw [inn, Option.bind_some, o1]
      rw [hin]
      by_cases c25 : zt_K T n t = 25
      · rw [if_pos (Or.inr c25)]
        have d25 : decide (zt_K T n t = 25) = true := decide_eq_true c25
        rw [d25]
        unfold j_X3_readCondition_89_7 j_X3_readCondition_116_7 j_X3_readCondition_117_7
        rw [g7, zw_g_t, kd2, Option.bind_some, if_neg (show ¬ ¬ nI (zt_K T n t) = (25 : Int32) from fun r => r (by rw [c25]; rfl))]
        rcases o2.take (sw := sw) (k := 25) (kv := 25) (rv := 1) (rm := true) hX ht hg (by omega) (by decide) (by decide) rfl rfl with ⟨-, -, q3, q4, I3, q5, q6⟩ | ⟨I3, q2, q3, q4⟩
        · rw [q5, Option.bind_some, if_neg zE_10, zw_let_e, nI_1, if_pos q3]
          obtain ⟨I4, l1, l2⟩ := zc_literal (sw := sw) (J := J) hr hX q6 (by omega) q4 (by omega)
          have lo := zp_Lt_ok (T := T) (n := n) (show t + 1 ≤ 500 by omega) q4
          have i5 : ¬ (500 : Int32) ≤ nI (i + 1) := nI_ge (b := 500) (by omega) (by decide)
          have hs7 : zc_ck (zE_R sw) J (N + 2) (some (.inl (1, 1, nI (i + 1), I3))) = zc_in (zE_R sw) J 1000000 (N + 1) true (nI (i + 1)) 0 I4 := zc_s7 (w := true) (N + 1) i5 l1
          rw [hs7]
          cases hL : zp_Lt (zt_K T n) (zp_V T n) (t + 1) with
          | inr y =>
            rw [hL] at l2
            have l2 : zc_F b T n I0 I4 y.1 y.2 := l2
            obtain ⟨I5, r1, r2⟩ := zc_inF (J := J) (M := 999999) (N := N) (w := true) (i := nI (i + 1)) (k := 0) hr l2
            refine ⟨I5, r1, ?_⟩
            rw [zp_Cn, hL]
            exact r2
          | inl r =>
            rw [hL] at l2 lo
            obtain ⟨u1, u2, u3, u4, u5, -⟩ := lo
            have l2 : zc_E b I0 I4 cl r.1 (cw ++ zr_lc (true, r.2)) := l2
            have ll := zr_lc_len (true, r.2)
            have l3 : (cw ++ zr_lc (true, r.2)).length = cw.length + (zr_lc (true, r.2)).length := List.length_append
            dsimp only at ll
            obtain ⟨I5, r1, r2⟩ := zc_rest hr hX f r.1 0 (i + 1) 1000000 (N + 1) I4 _ true (by omega) (by omega) (by omega) (by omega) (by omega) (by omega) (by omega) l2 u2 u3 (by rw [if_pos rfl, l3]; omega) (by omega)
            refine ⟨I5, r1, ?_⟩
            rw [zp_Cn_eq hL]
            cases hR : zp_Cr (zt_K T n) (zp_V T n) f r.1 with
            | inr y => rw [hR] at r2; exact r2
            | inl x =>
              rw [hR] at r2
              have ec : cw ++ zr_lc (true, r.2) ++ zr_cr true x.2 = cc ++ zr_cr w ((true, r.2) :: x.2) := by
                show _ = cc ++ ((if w = true then [(25, 0)] else []) ++ (zr_lc (true, r.2) ++ zr_cr true x.2))
                rw [ecw, List.append_assoc, List.append_assoc]
              unfold zc_RC at r2 ⊢
              dsimp only at r2 ⊢
              rw [← ec]
              exact r2
        · rw [q3, Option.bind_some, if_pos rfl, zw_let_e, if_neg (fun r => q2 ⟨c25, rfl, r⟩)]
          rw [if_pos c25] at q4
          exact ⟨I3, zc_s7e (R := zE_R sw) (J := J) (N + 1), q4⟩
      · rw [if_neg (fun r => by omega)]
        unfold j_X3_readCondition_89_7 j_X3_readCondition_116_7 j_X3_readCondition_117_7
        rw [g7, zw_g_t, kd2, Option.bind_some, if_pos (show ¬ nI (zt_K T n t) = (25 : Int32) from zr_ne (b := 25) c25 (by omega) (by decide)), zw_let_e]
        refine ⟨I2, zc_s7e (R := zE_R sw) (J := J) (N + 1), ?_⟩
        have ec : cc ++ zr_cr w [] = cw := by rw [ecw]; rfl
        show zc_E b I0 I2 cl t (cc ++ zr_cr w []) ∧ t ≤ 500 ∧ zt_go T n t ∧ cl + (cc ++ zr_cr w []).length ≤ t
        rw [ec]
        exact ⟨o2, ht, hg, lcw⟩
