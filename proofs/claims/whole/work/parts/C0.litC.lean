/-! ===== literals: what they are, and how the class reads them ===== -/
def zp_N (K : Nat → Nat) : Nat → Nat → Bool → (Nat × Bool) ⊕ (Nat × Nat)
  | 0, t, b => .inl (t, b)
  | f + 1, t, b => if K t = 27 then (if t < 500 then zp_N K f (t + 1) (!b) else .inr (2, t)) else .inl (t, b)
def zp_so (k : Nat) : Nat := if k = 16 then 0 else if k = 17 then 1 else if k = 14 then 2 else 3
/-- not, sort, left, right -/
abbrev zp_OL : Type := (Nat × (Bool × Nat × List zr_C × List zr_C)) ⊕ (Nat × Nat)
def zp_Lt (K V : Nat → Nat) (t : Nat) : zp_OL := match zp_N K 500 t false with
  | .inr y => .inr y
  | .inl a => match zp_S K V 8 0 a.1 with
    | .inr y => .inr y
    | .inl x => if 14 ≤ K x.1 ∧ K x.1 ≤ 17 then (if x.1 < 500 then (match zp_S K V 8 0 (x.1 + 1) with
        | .inr y => .inr y
        | .inl z => .inl (z.1, a.2, zp_so (K x.1), x.2, z.2)) else .inr (2, x.1)) else .inr (1, x.1)
theorem zp_N_ok {T : Nat → Nat} {n t0 : Nat} : ∀ (f t : Nat) (b : Bool), t0 ≤ t → t ≤ 500 → zt_go T n t → (b = true → t0 < t) → match zp_N (zt_K T n) f t b with
    | .inl x => t0 ≤ x.1 ∧ x.1 ≤ 500 ∧ zt_go T n x.1 ∧ (x.2 = true → t0 < x.1)
    | .inr y => (y.1 = 1 ∨ y.1 = 2) ∧ y.2 ≤ 500
  | 0, t, b, h0, ht, hg, hb => ⟨h0, ht, hg, hb⟩
  | f + 1, t, b, h0, ht, hg, hb => by
    unfold zp_N
    by_cases c : zt_K T n t = 27
    · rw [if_pos c]
      by_cases c2 : t < 500
      · rw [if_pos c2]
        exact zp_N_ok f (t + 1) (!b) (by omega) (by omega) (zp_go hg (by omega) (by omega)) (fun _ => by omega)
      · rw [if_neg c2]; exact ⟨Or.inr rfl, ht⟩
    · rw [if_neg c]; exact ⟨h0, ht, hg, hb⟩
/-- where a literal may end -/
def zp_okL (T : Nat → Nat) (n t : Nat) (ω : zp_OL) : Prop := match ω with
  | .inl r => t < r.1 ∧ r.1 ≤ 500 ∧ zt_go T n r.1 ∧ r.2.2.2.1.length + r.2.2.2.2.length + 1 + (if r.2.1 = true then 1 else 0) ≤ r.1 - t ∧ t + 3 ≤ r.1 ∧ r.2.2.1 < 4 ∧ zr_E r.2.2.2.1 ∧ zr_E r.2.2.2.2
  | .inr y => (y.1 = 1 ∨ y.1 = 2) ∧ y.2 ≤ 500
theorem zp_so4 : ∀ k, 14 ≤ k → k ≤ 17 → zp_so k < 4 ∧ zr_sk (zp_so k) = k := by
  intro k h1 h2
  rcases (show k = 14 ∨ k = 15 ∨ k = 16 ∨ k = 17 by omega) with rfl | rfl | rfl | rfl <;> decide
theorem zp_Lt_ok {T : Nat → Nat} {n t : Nat} (ht : t ≤ 500) (hg : zt_go T n t) : zp_okL T n t (zp_Lt (zt_K T n) (zp_V T n) t) := by
  unfold zp_Lt
  have h1 := zp_N_ok (T := T) (n := n) (t0 := t) 500 t false (Nat.le_refl _) ht hg (fun q => by cases q)
  cases hN : zp_N (zt_K T n) 500 t false with
  | inr y => rw [hN] at h1; exact h1
  | inl a =>
    rw [hN] at h1
    obtain ⟨a1, a2, a3, a4⟩ := h1
    dsimp only
    have h2 := zp_S_ok (T := T) (n := n) (V := zp_V T n) 8 0 a.1 a2 a3
    cases hS : zp_S (zt_K T n) (zp_V T n) 8 0 a.1 with
    | inr y => rw [hS] at h2; exact h2
    | inl x =>
      rw [hS] at h2
      obtain ⟨b1, b2, b3, b4⟩ := h2
      dsimp only
      by_cases c1 : 14 ≤ zt_K T n x.1 ∧ zt_K T n x.1 ≤ 17
      · rw [if_pos c1]
        by_cases c2 : x.1 < 500
        · rw [if_pos c2]
          have h3 := zp_S_ok (T := T) (n := n) (V := zp_V T n) 8 0 (x.1 + 1) (by omega) (zp_go b3 (by omega) (by omega))
          cases hS2 : zp_S (zt_K T n) (zp_V T n) 8 0 (x.1 + 1) with
          | inr y => rw [hS2] at h3; exact h3
          | inl z =>
            rw [hS2] at h3
            obtain ⟨d1, d2, d3, d4⟩ := h3
            refine ⟨by show t < z.1; omega, d2, d3, ?_, by show t + 3 ≤ z.1; omega, (zp_so4 _ c1.1 c1.2).1, zp_S_E hS, zp_S_E hS2⟩
            show x.2.length + z.2.length + 1 + (if a.2 = true then 1 else 0) ≤ z.1 - t
            by_cases an : a.2 = true
            · have := a4 an
              rw [if_pos an]; omega
            · rw [if_neg an]; omega
        · rw [if_neg c2]; exact ⟨Or.inr rfl, b2⟩
      · rw [if_neg c1]; exact ⟨Or.inl rfl, b2⟩
/-! the class -/
theorem zc_nots {sw b : Bool} {I0 : zI} {J : zJ} {T : Nat → Nat} {n cl : Nat} {cc : List zr_C} (hX : zp_X T n I0 J) (hc : cl + cc.length ≤ 500) : ∀ (f N t : Nat) (I : zI) (q : Bool), f ≤ 500 → f + 1 < N → zc_E b I0 I cl t cc → t ≤ 500 → zt_go T n t → ∃ v I2, zw_it (s_X3_readLiteral_4 7 2 (zE_R sw) J) N (zr_b q, nI (500 - f), I) = some (v, I2) ∧ match zp_N (zt_K T n) f t q with
    | .inl x => v = zr_b x.2 ∧ zc_E b I0 I2 cl x.1 cc
    | .inr y => zc_F b T n I0 I2 y.1 y.2
  | f, 0, t, I, q, hf, hN, h, ht, hg => absurd hN (Nat.not_lt_zero _)
  | 0, N + 1, t, I, q, hf, hN, h, ht, hg => by
    refine ⟨zr_b q, I, zE_it0 N ?_, rfl, h⟩
    unfold s_X3_readLiteral_4
    dsimp only
    rw [if_pos (show (500 : Int32) ≤ nI (500 - 0) by decide)]
  | f + 1, N + 1, t, I, q, hf, hN, h, ht, hg => by
    have kb := zp_K hX t
    have g7 : zw_gc 7 3 = true := by simp only [zE_gC]
    have nk : ¬ (500 : Int32) ≤ nI (500 - (f + 1)) := nI_ge (b := 500) (by omega) (by decide)
    have nk1 : nI (500 - (f + 1)) + 1 = nI (500 - f) := by rw [nI_1]; congr 1; omega
    have kd := h.kind (sw := sw) hX ht hg
    have hd : s_X3_readLiteral_4 7 2 (zE_R sw) J (zr_b q, nI (500 - (f + 1)), I) = if ¬ nI (zt_K T n t) = 27 then some (.inr (zr_b q, I)) else (f_X3_take 7 2 27 1 I (zE_R sw)).bind fun q5 => some (.inl (zr_b (!q), nI (500 - f), q5.2)) := by
      unfold s_X3_readLiteral_4 j_X3_readLiteral_39_4
      dsimp only
      rw [if_neg nk, g7, zw_g_t, kd, Option.bind_some]
      simp only [zw_let_e, nk1]
      cases q <;> rfl
    unfold zp_N
    by_cases c : zt_K T n t = 27
    · rw [if_neg (show ¬ ¬ nI (zt_K T n t) = (27 : Int32) from fun r => r (by rw [c]; rfl))] at hd
      rw [if_pos c]
      rcases h.take (sw := sw) (k := 27) (kv := 27) (rv := 1) (rm := true) hX ht hg hc (by decide) (by decide) rfl rfl with ⟨-, -, k3, k4, I2, k5, k6⟩ | ⟨I2, k2, k3, k4⟩
      · rw [k5, Option.bind_some] at hd
        rw [if_pos k3]
        obtain ⟨v, I3, r1, r2⟩ := zc_nots hX hc f N (t + 1) I2 (!q) (by omega) (by omega) k6 (by omega) k4
        exact ⟨v, I3, (zE_it1 N hd).trans r1, r2⟩
      · rw [k3, Option.bind_some] at hd
        rw [if_neg (fun r => k2 ⟨c, rfl, r⟩)]
        rw [if_pos c] at k4
        refine ⟨zr_b (!q), I2, ?_, k4⟩
        rw [zE_it1 N hd, show N = (N - 1) + 1 by omega]
        refine zE_it0 (N - 1) ?_
        unfold s_X3_readLiteral_4
        dsimp only
        by_cases c5 : (500 : Int32) ≤ nI (500 - f)
        · rw [if_pos c5]
        · rw [if_neg c5, g7, zw_g_t, zp_kindF k4.ne, Option.bind_some, if_pos (show ¬ (1 : Int32) = 27 by decide)]
    · rw [if_pos (show ¬ nI (zt_K T n t) = (27 : Int32) from zr_ne (b := 27) c (by omega) (by decide))] at hd
      rw [if_neg c]
      exact ⟨zr_b q, I, zE_it0 N hd, rfl, h⟩
/-- behind a fault a literal only writes code that counts for nothing -/
theorem zc_lit78F {sw b : Bool} {I0 I : zI} {J : zJ} {T : Nat → Nat} {n f e : Nat} (hr : zE_R sw 7 2 = zE_h b) (h : zc_F b T n I0 I f e) (v v3 s2 : Int32) : ∃ I2, j_X3_readLiteral_78 7 2 v v3 7 2 s2 I (zE_R sw) J = some I2 ∧ zc_F b T n I0 I2 f e := by
  have g7 : zw_gc 7 3 = true := by simp only [zE_gC]
  have gh := (zE_gH b).1
  obtain ⟨I2, p1, p2⟩ := h.add (sw := sw) v3 0
  obtain ⟨I3, q1, q2⟩ := p2.add (sw := sw) 27 0
  unfold j_X3_readLiteral_78
  rw [g7, zw_g_t, zp_takeF h.ne, Option.bind_some, zw_g_t, zc_readSumF (m := 7) h, Option.bind_some, hr, gh, zw_g_t, p1, Option.bind_some]
  by_cases c : v = 0
  · rw [if_pos c]; exact ⟨I2, rfl, p2⟩
  · rw [if_neg c, q1, Option.bind_some]; exact ⟨I3, rfl, q2⟩
theorem zc_lit46F {sw b : Bool} {I0 I : zI} {J : zJ} {T : Nat → Nat} {n f e : Nat} (hr : zE_R sw 7 2 = zE_h b) (h : zc_F b T n I0 I f e) (v : Int32) : ∃ I2, j_X3_readLiteral_46 7 2 v I (zE_R sw) J = some I2 ∧ zc_F b T n I0 I2 f e := by
  have g7 : zw_gc 7 3 = true := by simp only [zE_gC]
  unfold j_X3_readLiteral_46 j_X3_readLiteral_76
  rw [g7, zw_g_t, zc_readSumF (m := 7) h, Option.bind_some, zp_kindF h.ne, Option.bind_some, if_pos (show (1 : Int32) < 14 by decide)]
  exact zc_lit78F hr h v 1 16
def zc_RL (b : Bool) (T : Nat → Nat) (n : Nat) (I0 I : zI) (cl : Nat) (cc : List zr_C) (ω : zp_OL) : Prop := match ω with
  | .inl r => zc_E b I0 I cl r.1 (cc ++ zr_lc (true, r.2))
  | .inr y => zc_F b T n I0 I y.1 y.2
theorem zc_literal {sw b : Bool} {I0 I : zI} {J : zJ} {T : Nat → Nat} {n cl t : Nat} {cc : List zr_C} (hr : zE_R sw 7 2 = zE_h b) (hX : zp_X T n I0 J) (h : zc_E b I0 I cl t cc) (ht : t ≤ 500) (hg : zt_go T n t) (hc : cl + cc.length ≤ t) : ∃ I2, f_X3_readLiteral 7 2 I (zE_R sw) J = some I2 ∧ zc_RL b T n I0 I2 cl cc (zp_Lt (zt_K T n) (zp_V T n) t) := by
  have g7 : zw_gc 7 3 = true := by simp only [zE_gC]
  have gh := (zE_gH b).1
  obtain ⟨v, I1, n1, n2⟩ := zc_nots (sw := sw) (J := J) hX (show cl + cc.length ≤ 500 by omega) 500 1000000 t I false (by decide) (by decide) h ht hg
  have n1 : zw_it (s_X3_readLiteral_4 7 2 (zE_R sw) J) 1000000 (0, 0, I) = some (v, I1) := n1
  have no := zp_N_ok (T := T) (n := n) (t0 := t) 500 t false (Nat.le_refl _) ht hg (fun q => by cases q)
  unfold f_X3_readLiteral zp_Lt
  rw [n1, Option.bind_some]
  cases hN : zp_N (zt_K T n) 500 t false with
  | inr y =>
    rw [hN] at n2
    exact zc_lit46F hr n2 v
  | inl a =>
    rw [hN] at n2 no
    obtain ⟨rfl, n3⟩ := n2
    obtain ⟨a1, a2, a3, a4⟩ := no
    dsimp only
    obtain ⟨I2, s1, s2⟩ := zc_readSum (J := J) hr hX 8 0 rfl (by decide) I1 cl a.1 cc n3 a2 a3 (by omega)
    have s1 : r_X3_readSum 8 7 2 0 I1 (zE_R sw) J = some I2 := s1
    have so := zp_S_ok (T := T) (n := n) (V := zp_V T n) 8 0 a.1 a2 a3
    have kd := zc_kindR (sw := sw) hX s2 so
    unfold j_X3_readLiteral_46 j_X3_readLiteral_76
    rw [g7, zw_g_t, s1, Option.bind_some, kd, Option.bind_some]
    cases hS : zp_S (zt_K T n) (zp_V T n) 8 0 a.1 with
    | inr y =>
      rw [hS] at s2
      have s2 : zc_F b T n I0 I2 y.1 y.2 := s2
      rw [if_pos (show zc_kv T n (.inr y) < 14 from by show (1 : Int32) < 14; decide)]
      exact zc_lit78F hr s2 _ _ _
    | inl x =>
      rw [hS] at s2 so
      obtain ⟨b1, b2, b3, b4⟩ := so
      have s2 : zc_E b I0 I2 cl x.1 (cc ++ x.2.map zr_ck) := s2
      have kb := zp_K hX x.1
      have lcx : (cc ++ x.2.map zr_ck).length = cc.length + x.2.length := by rw [List.length_append, List.length_map]
      dsimp only
      by_cases c1 : 14 ≤ zt_K T n x.1 ∧ zt_K T n x.1 ≤ 17
      · rw [if_neg (show ¬ zc_kv T n (.inl x) < 14 from nI_nlt (b := 14) c1.1 (by omega)), if_neg (show ¬ (17 : Int32) < zc_kv T n (.inl x) from nI_nlt (a := 17) c1.2 (by decide)), if_pos c1]
        show ∃ I3, j_X3_readLiteral_78 7 2 (zr_b a.2) (nI (zt_K T n x.1)) 7 2 (nI (zt_K T n x.1)) I2 (zE_R sw) J = some I3 ∧ _
        rcases s2.take (sw := sw) (k := zt_K T n x.1) (rv := 1) (rm := true) hX b2 b3 (by omega) kb (by omega) rfl rfl with ⟨-, -, k3, k4, I3, k5, k6⟩ | ⟨I3, k2, k3, k4⟩
        · rw [if_pos k3]
          obtain ⟨I4, p1, p2⟩ := zc_readSum (J := J) hr hX 8 0 rfl (by decide) I3 cl (x.1 + 1) _ k6 (by omega) k4 (by omega)
          have p1 : r_X3_readSum 8 7 2 0 I3 (zE_R sw) J = some I4 := p1
          have po := zp_S_ok (T := T) (n := n) (V := zp_V T n) 8 0 (x.1 + 1) (by omega) k4
          unfold j_X3_readLiteral_78
          rw [g7, zw_g_t, k5, Option.bind_some, zw_g_t, p1, Option.bind_some, hr, gh, zw_g_t]
          cases hS2 : zp_S (zt_K T n) (zp_V T n) 8 0 (x.1 + 1) with
          | inr y =>
            rw [hS2] at p2
            have p2 : zc_F b T n I0 I4 y.1 y.2 := p2
            obtain ⟨I5, m1, m2⟩ := p2.add (sw := sw) (nI (zt_K T n x.1)) 0
            obtain ⟨I6, w1, w2⟩ := m2.add (sw := sw) 27 0
            rw [m1, Option.bind_some]
            by_cases cv : zr_b a.2 = 0
            · rw [if_pos cv]; exact ⟨I5, rfl, m2⟩
            · rw [if_neg cv, w1, Option.bind_some]; exact ⟨I6, rfl, w2⟩
          | inl z =>
            rw [hS2] at p2 po
            obtain ⟨d1, d2, d3, d4⟩ := po
            have p2 : zc_E b I0 I4 cl z.1 (cc ++ x.2.map zr_ck ++ z.2.map zr_ck) := p2
            have lz : (cc ++ x.2.map zr_ck ++ z.2.map zr_ck).length = cc.length + x.2.length + z.2.length := by rw [List.length_append, List.length_map, lcx]
            obtain ⟨I5, m1, m2⟩ := p2.add (sw := sw) (by omega) (zt_K T n x.1) 0
            have m1 : f_X1_addCode (zE_h b) (nI (zt_K T n x.1)) 0 I4 (zE_R sw) = some I5 := m1
            have sk := (zp_so4 _ c1.1 c1.2).2
            rw [m1, Option.bind_some]
            cases an : a.2
            · rw [if_pos (show zr_b false = 0 from rfl)]
              refine ⟨I5, rfl, ?_⟩
              have ec : cc ++ zr_lc (true, false, zp_so (zt_K T n x.1), x.2, z.2) = cc ++ x.2.map zr_ck ++ z.2.map zr_ck ++ [(zt_K T n x.1, 0)] := by
                unfold zr_lc
                dsimp only
                rw [if_neg (by decide), sk, List.append_assoc, List.append_assoc]
              show zc_E b I0 I5 cl z.1 (cc ++ zr_lc (true, false, zp_so (zt_K T n x.1), x.2, z.2))
              rw [ec]
              exact m2
            · have hat := a4 an
              rw [if_neg (show ¬ zr_b true = 0 by decide)]
              obtain ⟨I6, w1, w2⟩ := m2.add (sw := sw) (by rw [List.length_append, lz]; show cl + (cc.length + x.2.length + z.2.length + 1) < 500; omega) 27 0
              have w1 : f_X1_addCode (zE_h b) 27 0 I5 (zE_R sw) = some I6 := w1
              rw [w1, Option.bind_some]
              refine ⟨I6, rfl, ?_⟩
              have ec : cc ++ zr_lc (true, true, zp_so (zt_K T n x.1), x.2, z.2) = cc ++ x.2.map zr_ck ++ z.2.map zr_ck ++ [(zt_K T n x.1, 0)] ++ [(27, 0)] := by
                unfold zr_lc
                dsimp only
                rw [if_pos rfl, sk, List.append_assoc, List.append_assoc, List.append_assoc]
                rfl
              show zc_E b I0 I6 cl z.1 (cc ++ zr_lc (true, true, zp_so (zt_K T n x.1), x.2, z.2))
              rw [ec]
              exact w2
        · rw [if_neg (fun r => k2 ⟨rfl, rfl, r⟩)]
          rw [if_pos rfl] at k4
          obtain ⟨I5, m1, m2⟩ := k4.add (sw := sw) (nI (zt_K T n x.1)) 0
          obtain ⟨I6, w1, w2⟩ := m2.add (sw := sw) 27 0
          unfold j_X3_readLiteral_78
          rw [g7, zw_g_t, k3, Option.bind_some, zw_g_t, zc_readSumF (m := 7) k4, Option.bind_some, hr, gh, zw_g_t, m1, Option.bind_some]
          by_cases cv : zr_b a.2 = 0
          · rw [if_pos cv]; exact ⟨I5, rfl, m2⟩
          · rw [if_neg cv, w1, Option.bind_some]; exact ⟨I6, rfl, w2⟩
      · rw [if_neg c1]
        -- no comparison: SAME is asked for, and isn't there
        have bad : ∃ I3, j_X3_readLiteral_78 7 2 (zr_b a.2) (nI (zt_K T n x.1)) 7 2 16 I2 (zE_R sw) J = some I3 ∧ zc_F b T n I0 I3 1 x.1 := by
          rcases s2.take (sw := sw) (k := 16) (kv := 16) (rv := 1) (rm := true) hX b2 b3 (by omega) (by decide) (by decide) rfl rfl with ⟨k1, -⟩ | ⟨I3, k2, k3, k4⟩
          · exact absurd (by omega) c1
          · rw [if_neg (show ¬ zt_K T n x.1 = 16 by omega)] at k4
            obtain ⟨I5, m1, m2⟩ := k4.add (sw := sw) (nI (zt_K T n x.1)) 0
            obtain ⟨I6, w1, w2⟩ := m2.add (sw := sw) 27 0
            unfold j_X3_readLiteral_78
            rw [g7, zw_g_t, k3, Option.bind_some, zw_g_t, zc_readSumF (m := 7) k4, Option.bind_some, hr, gh, zw_g_t, m1, Option.bind_some]
            by_cases cv : zr_b a.2 = 0
            · rw [if_pos cv]; exact ⟨I5, rfl, m2⟩
            · rw [if_neg cv, w1, Option.bind_some]; exact ⟨I6, rfl, w2⟩
        by_cases c14 : zt_K T n x.1 < 14
        · rw [if_pos (show zc_kv T n (.inl x) < 14 from nI_lt (b := 14) c14 (by decide))]
          exact bad
        · rw [if_neg (show ¬ zc_kv T n (.inl x) < 14 from nI_nlt (b := 14) (by omega) (by omega)), if_pos (show (17 : Int32) < zc_kv T n (.inl x) from nI_lt (a := 17) (by omega) (by omega))]
          exact bad
