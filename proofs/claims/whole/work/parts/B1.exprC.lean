/-! ===== expressions: what they are (pure), and how the class reads them ===== -/
/-- an outcome: behind it, and its code; or a fault and the token where it is -/
abbrev zp_O : Type := (Nat × List zr_C) ⊕ (Nat × Nat)
/-- the model's number of the class's variable -/
def zp_mv (j : Nat) : Nat := if j = 3 then 4 else if j = 4 then 5 else if j = 5 then 3 else j
theorem zp_mvE : ∀ j, j < 8 → zr_cv (zp_mv j) = j ∧ zp_mv j < 8 := by decide
def zp_U (S : Nat → zp_O) (K V : Nat → Nat) (d t : Nat) : zp_O :=
  if K t = 12 then (if d < 6 ∧ t < 500 then (match S (t + 1) with
    | .inr x => .inr x
    | .inl x => if K x.1 = 13 then (if x.1 < 500 then .inl (x.1 + 1, x.2) else .inr (2, x.1)) else .inr (1, x.1)) else .inr (2, t))
  else if 28 ≤ K t ∧ K t ≤ 35 then (if t < 500 then .inl (t + 1, [(1, zp_mv (K t - 28))]) else .inr (2, t))
  else if K t = 3 then (if t < 500 then .inl (t + 1, [(0, V t)]) else .inr (2, t)) else .inr (1, t)
def zp_M (U : Nat → zp_O) (K : Nat → Nat) : Nat → Nat → List zr_C → zp_O
  | 0, t, c => .inl (t, c)
  | f + 1, t, c => if K t = 10 ∨ K t = 11 then (if t < 500 then (match U (t + 1) with
      | .inr x => .inr x
      | .inl x => zp_M U K f x.1 (c ++ (x.2 ++ [(K t - 6, 0)]))) else .inr (2, t)) else .inl (t, c)
def zp_w (w : Nat) : List zr_C := if w = 0 then [] else [(w - 6, 0)]
def zp_P (U : Nat → zp_O) (K : Nat → Nat) : Nat → Nat → List zr_C → Nat → zp_O
  | 0, t, c, _ => .inl (t, c)
  | f + 1, t, c, w => match U t with
    | .inr x => .inr x
    | .inl x => match zp_M U K 500 x.1 x.2 with
      | .inr y => .inr y
      | .inl y => if K y.1 = 8 ∨ K y.1 = 9 then (if y.1 < 500 then zp_P U K f (y.1 + 1) (c ++ (y.2 ++ zp_w w)) (K y.1) else .inr (2, y.1)) else .inl (y.1, c ++ (y.2 ++ zp_w w))
def zp_S (K V : Nat → Nat) : Nat → Nat → Nat → zp_O
  | 0, _, t => .inr (1, t)
  | m + 1, d, t => zp_P (zp_U (zp_S K V m (d + 1)) K V d) K 500 t [] 0
/-- where an outcome may lie -/
def zp_ok (T : Nat → Nat) (n t : Nat) (ω : zp_O) : Prop := match ω with
  | .inl x => t < x.1 ∧ x.1 ≤ 500 ∧ zt_go T n x.1 ∧ x.2.length ≤ x.1 - t
  | .inr y => (y.1 = 1 ∨ y.1 = 2) ∧ y.2 ≤ 500
theorem zp_U_ok {T : Nat → Nat} {n : Nat} {S : Nat → zp_O} {V : Nat → Nat} {d t : Nat} (hS : d < 6 → ∀ t, t ≤ 500 → zt_go T n t → zp_ok T n t (S t)) (ht : t ≤ 500) (hg : zt_go T n t) : zp_ok T n t (zp_U S (zt_K T n) V d t) := by
  unfold zp_U
  by_cases c1 : zt_K T n t = 12
  · rw [if_pos c1]
    by_cases c2 : d < 6 ∧ t < 500
    · rw [if_pos c2]
      have h1 := hS c2.1 (t + 1) (by omega) (zp_go hg (by omega) (by omega))
      cases hs : S (t + 1) with
      | inr x => rw [hs] at h1; exact h1
      | inl x =>
        rw [hs] at h1
        obtain ⟨a1, a2, a3, a4⟩ := h1
        dsimp only
        by_cases c3 : zt_K T n x.1 = 13
        · rw [if_pos c3]
          by_cases c4 : x.1 < 500
          · rw [if_pos c4]
            exact ⟨by show t < x.1 + 1; omega, by show x.1 + 1 ≤ 500; omega, zp_go a3 (by omega) (by omega), by show x.2.length ≤ x.1 + 1 - t; omega⟩
          · rw [if_neg c4]; exact ⟨Or.inr rfl, a2⟩
        · rw [if_neg c3]; exact ⟨Or.inl rfl, a2⟩
    · rw [if_neg c2]; exact ⟨Or.inr rfl, ht⟩
  · rw [if_neg c1]
    by_cases c2 : 28 ≤ zt_K T n t ∧ zt_K T n t ≤ 35
    · rw [if_pos c2]
      by_cases c3 : t < 500
      · rw [if_pos c3]
        exact ⟨by show t < t + 1; omega, by show t + 1 ≤ 500; omega, zp_go hg (by omega) (by omega), by show 1 ≤ t + 1 - t; omega⟩
      · rw [if_neg c3]; exact ⟨Or.inr rfl, ht⟩
    · rw [if_neg c2]
      by_cases c4 : zt_K T n t = 3
      · rw [if_pos c4]
        by_cases c3 : t < 500
        · rw [if_pos c3]
          exact ⟨by show t < t + 1; omega, by show t + 1 ≤ 500; omega, zp_go hg (by omega) (by omega), by show 1 ≤ t + 1 - t; omega⟩
        · rw [if_neg c3]; exact ⟨Or.inr rfl, ht⟩
      · rw [if_neg c4]; exact ⟨Or.inl rfl, ht⟩
theorem zp_M_ok {T : Nat → Nat} {n t0 : Nat} {U : Nat → zp_O} (hU : ∀ t, t ≤ 500 → zt_go T n t → zp_ok T n t (U t)) : ∀ (f t : Nat) (c : List zr_C), t0 < t → t ≤ 500 → zt_go T n t → c.length ≤ t - t0 → zp_ok T n t0 (zp_M U (zt_K T n) f t c)
  | 0, t, c, h0, ht, hg, hc => ⟨h0, ht, hg, hc⟩
  | f + 1, t, c, h0, ht, hg, hc => by
    unfold zp_M
    by_cases c1 : zt_K T n t = 10 ∨ zt_K T n t = 11
    · rw [if_pos c1]
      by_cases c2 : t < 500
      · rw [if_pos c2]
        have h1 := hU (t + 1) (by omega) (zp_go hg (by omega) (by omega))
        cases hs : U (t + 1) with
        | inr x => rw [hs] at h1; exact h1
        | inl x =>
          rw [hs] at h1
          obtain ⟨a1, a2, a3, a4⟩ := h1
          exact zp_M_ok hU f x.1 _ (by omega) a2 a3 (by rw [List.length_append, List.length_append]; show c.length + (x.2.length + 1) ≤ _; omega)
      · rw [if_neg c2]; exact ⟨Or.inr rfl, ht⟩
    · rw [if_neg c1]; exact ⟨h0, ht, hg, hc⟩
theorem zp_w_len (w : Nat) : (zp_w w).length ≤ 1 := by
  unfold zp_w
  split
  · exact Nat.zero_le _
  · exact Nat.le_refl _
theorem zp_P_ok {T : Nat → Nat} {n t0 : Nat} {U : Nat → zp_O} (hU : ∀ t, t ≤ 500 → zt_go T n t → zp_ok T n t (U t)) : ∀ (f t : Nat) (c : List zr_C) (w : Nat), t0 ≤ t → t ≤ 500 → zt_go T n t → c.length + (zp_w w).length ≤ t - t0 → (f = 0 → t0 < t) → zp_ok T n t0 (zp_P U (zt_K T n) f t c w)
  | 0, t, c, w, h0, ht, hg, hc, hf => ⟨hf rfl, ht, hg, by show c.length ≤ t - t0; omega⟩
  | f + 1, t, c, w, h0, ht, hg, hc, _ => by
    unfold zp_P
    have h1 := hU t ht hg
    cases hs : U t with
    | inr x => rw [hs] at h1; exact h1
    | inl x =>
      rw [hs] at h1
      obtain ⟨a1, a2, a3, a4⟩ := h1
      dsimp only
      have h2 := zp_M_ok (t0 := t) hU 500 x.1 x.2 a1 a2 a3 a4
      cases hm : zp_M U (zt_K T n) 500 x.1 x.2 with
      | inr y => rw [hm] at h2; exact h2
      | inl y =>
        rw [hm] at h2
        obtain ⟨b1, b2, b3, b4⟩ := h2
        dsimp only
        have ll : (c ++ (y.2 ++ zp_w w)).length ≤ y.1 - t0 := by rw [List.length_append, List.length_append]; omega
        by_cases c1 : zt_K T n y.1 = 8 ∨ zt_K T n y.1 = 9
        · rw [if_pos c1]
          by_cases c2 : y.1 < 500
          · rw [if_pos c2]
            have := zp_w_len (zt_K T n y.1)
            exact zp_P_ok hU f (y.1 + 1) _ _ (by omega) (by omega) (zp_go b3 (by omega) (by omega)) (by omega) (fun _ => by omega)
          · rw [if_neg c2]; exact ⟨Or.inr rfl, b2⟩
        · rw [if_neg c1]
          exact ⟨by show t0 < y.1; omega, b2, b3, ll⟩
theorem zp_S_ok {T : Nat → Nat} {n : Nat} {V : Nat → Nat} : ∀ (m d t : Nat), t ≤ 500 → zt_go T n t → zp_ok T n t (zp_S (zt_K T n) V m d t)
  | 0, d, t, ht, hg => ⟨Or.inl rfl, ht⟩
  | m + 1, d, t, ht, hg => zp_P_ok (t0 := t) (fun t2 h1 h2 => zp_U_ok (fun _ t3 h3 h4 => zp_S_ok m (d + 1) t3 h3 h4) h1 h2) 500 t [] 0 (Nat.le_refl _) ht hg (by show 0 + 0 ≤ _; omega) (fun h => by cases h)
/-! the class -/
def zc_R (b : Bool) (T : Nat → Nat) (n : Nat) (I0 I : zI) (cl : Nat) (cc : List zr_C) (ω : zp_O) : Prop := match ω with
  | .inl x => zc_E b I0 I cl x.1 (cc ++ x.2.map zr_ck)
  | .inr y => zc_F b T n I0 I y.1 y.2
/-- the value of an INT -/
def zp_V (T : Nat → Nat) (n t : Nat) : Nat := if zt_a T n t < n then zt_v T n (zt_a T n t) else 0
theorem zt_wk_v (w : List Nat) : ∀ f s, zt_kf w f s = 2 ∨ 18 ≤ zt_kf w f s
  | 0, s => Or.inl rfl
  | f + 1, s => by
    unfold zt_kf
    split
    · exact Or.inr (by omega)
    · exact zt_wk_v w f (s + 1)
theorem zt_K3 {T : Nat → Nat} {n t : Nat} (hT : zt_a T n t < n → T (zt_a T n t) < 256) (h : zt_K T n t = 3) : zt_a T n t < n ∧ zt_L (T (zt_a T n t)) = false := by
  unfold zt_K at h
  by_cases c : zt_a T n t < n
  · rw [if_pos c] at h
    refine ⟨c, ?_⟩
    cases hL : zt_L (T (zt_a T n t))
    · rfl
    · exfalso
      unfold zt_k at h
      rw [hL, if_pos rfl] at h
      by_cases c8 : zt_e T n (zt_a T n t) - zt_a T n t ≤ 8
      · rw [if_pos c8] at h
        have := zt_wk_v (zt_w T n (zt_a T n t)) 18 0
        unfold zt_wk at h
        omega
      · rw [if_neg c8] at h; omega
  · rw [if_neg c] at h; omega
theorem zp_val {T : Nat → Nat} {n t : Nat} {I : zI} {J : zJ} (hX : zp_X T n I J) (ht : t ≤ 500) (hg : zt_go T n t) (h : zt_K T n t = 3) : Int64.toInt32 (J 6 t) = nI (zp_V T n t) := by
  obtain ⟨-, -, c3⟩ := hX.2.2 t ht hg
  obtain ⟨h1, h2⟩ := zt_K3 (fun hlt => hX.2.1 _ hlt) h
  rw [c3, lN_i]
  unfold zp_V zt_cv
  rw [if_pos h1, if_pos h1, h2, if_neg (by decide)]
theorem zc_unitF {sw b : Bool} {I0 I : zI} {J : zJ} {T : Nat → Nat} {n f e : Nat} {g : Nat → Nat → Int32 → zI → zR → zJ → Option zI} {v : Int32} (hr : zE_R sw 7 2 = zE_h b) (h : zc_F b T n I0 I f e) : ∃ I2, f_X3_readUnit g 7 2 v I (zE_R sw) J = some I2 ∧ zc_F b T n I0 I2 f e := by
  have h0 := h.ne
  obtain ⟨-, -, -, -, -, -, c, t, hc, ht, -, h3⟩ := id h
  obtain ⟨I2, q1, q2⟩ := h.add (sw := sw) 3 (Int64.toInt32 (J 6 t))
  refine ⟨I2, ?_, q2⟩
  have j85 : j_X3_readUnit_85 g 7 2 I (zE_R sw) J = some I2 := by
    unfold j_X3_readUnit_85
    simp only [zE_gC, zE_rC sw, zE_sC, zw_g_t, zw_let_e, h3, zE_in (show t < 501 by omega) (by decide), zE_cl (show t < 2 ^ 31 by omega), zp_takeF (sw := sw) h0, Option.bind_some, hr, (zE_gH b).1, q1]
  unfold f_X3_readUnit
  rw [show zw_gc 7 3 = true by simp only [zE_gC], zw_g_t, zp_kindF h0, Option.bind_some, if_pos (show ¬ (1 : Int32) = 12 by decide), if_pos (show (1 : Int32) < 28 by decide)]
  exact j85
theorem zc_unit {sw b : Bool} {I0 I : zI} {J : zJ} {T : Nat → Nat} {n d cl t : Nat} {cc : List zr_C} {g : Nat → Nat → Int32 → zI → zR → zJ → Option zI} {S : Nat → zp_O} (hr : zE_R sw 7 2 = zE_h b) (hX : zp_X T n I0 J) (hd : d ≤ 6) (hS : d < 6 → ∀ t, t ≤ 500 → zt_go T n t → zp_ok T n t (S t)) (hg1 : d < 6 → ∀ (I : zI) (cl t : Nat) (cc : List zr_C), zc_E b I0 I cl t cc → t ≤ 500 → zt_go T n t → cl + cc.length ≤ t → ∃ I2, g 7 2 (nI (d + 1)) I (zE_R sw) J = some I2 ∧ zc_R b T n I0 I2 cl cc (S t)) (h : zc_E b I0 I cl t cc) (ht : t ≤ 500) (hg : zt_go T n t) (hc : cl + cc.length ≤ t) : ∃ I2, f_X3_readUnit g 7 2 (nI d) I (zE_R sw) J = some I2 ∧ zc_R b T n I0 I2 cl cc (zp_U S (zt_K T n) (zp_V T n) d t) := by
  have kb := zp_K hX t
  have g7 : zw_gc 7 3 = true := by simp only [zE_gC]
  have gh := (zE_gH b).1
  have kd := h.kind (sw := sw) hX ht hg
  unfold f_X3_readUnit zp_U
  rw [g7, zw_g_t, kd, Option.bind_some]
  by_cases c1 : zt_K T n t = 12
  · rw [if_neg (show ¬ ¬ nI (zt_K T n t) = (12 : Int32) from fun r => r (by rw [c1]; rfl)), if_pos c1]
    have j27 : ∀ (rv : Int32) (rm : Bool), rv = zr_b rm → (rm = true ↔ d < 6) → ∃ I2, j_X3_readUnit_27 g 7 2 (nI d) 7 2 12 rv I (zE_R sw) J = some I2 ∧ zc_R b T n I0 I2 cl cc (if d < 6 ∧ t < 500 then (match S (t + 1) with
        | .inr x => .inr x
        | .inl x => if zt_K T n x.1 = 13 then (if x.1 < 500 then .inl (x.1 + 1, x.2) else .inr (2, x.1)) else .inr (1, x.1)) else .inr (2, t)) := by
      intro rv rm erv hrm
      unfold j_X3_readUnit_27
      rw [g7, zw_g_t]
      rcases h.take (sw := sw) (k := 12) (kv := 12) hX ht hg (by omega) (by decide) (by decide) rfl erv with ⟨-, k2, k3, k4, I2, k5, k6⟩ | ⟨I2, k2, k3, k4⟩
      · have hd6 := hrm.mp k2
        rw [k5, Option.bind_some, if_neg zE_10, if_pos ⟨hd6, k3⟩]
        obtain ⟨I3, m1, m2⟩ := hg1 hd6 I2 cl (t + 1) cc k6 (by omega) k4 (by omega)
        have so := hS hd6 (t + 1) (by omega) k4
        rw [nI_1, m1, Option.bind_some]
        cases hs : S (t + 1) with
        | inr x =>
          rw [hs] at m2
          have m2 : zc_F b T n I0 I3 x.1 x.2 := m2
          rw [zp_takeF m2.ne, Option.bind_some]
          exact ⟨I3, rfl, m2⟩
        | inl x =>
          rw [hs] at m2 so
          obtain ⟨s1, s2, s3, s4⟩ := so
          have m2 : zc_E b I0 I3 cl x.1 (cc ++ x.2.map zr_ck) := m2
          have ll : cl + (cc ++ x.2.map zr_ck).length ≤ 500 := by rw [List.length_append, List.length_map]; omega
          dsimp only
          rcases m2.take (sw := sw) (k := 13) (kv := 13) (rv := 1) (rm := true) hX s2 s3 ll (by decide) (by decide) rfl rfl with ⟨p1, -, p3, p4, I4, p5, p6⟩ | ⟨I4, p2, p3, p4⟩
          · rw [p5, Option.bind_some, if_pos p1, if_pos p3]
            exact ⟨I4, rfl, p6⟩
          · rw [p3, Option.bind_some]
            refine ⟨I4, rfl, ?_⟩
            by_cases q : zt_K T n x.1 = 13
            · rw [if_pos q] at p4
              rw [if_pos q, if_neg (fun r => p2 ⟨q, rfl, r⟩)]
              exact p4
            · rw [if_neg q] at p4
              rw [if_neg q]
              exact p4
      · rw [k3, Option.bind_some, if_pos rfl, if_neg (fun r => k2 ⟨c1, hrm.mpr r.1, r.2⟩)]
        rw [if_pos c1] at k4
        exact ⟨I2, rfl, k4⟩
    by_cases c6 : d < 6
    · rw [if_neg (show ¬ (6 : Int32) ≤ nI d from nI_ge (b := 6) c6 (by decide))]
      exact j27 1 true rfl ⟨fun _ => c6, fun _ => rfl⟩
    · rw [if_pos (show (6 : Int32) ≤ nI d from nI_le (a := 6) (by omega) (by omega))]
      exact j27 0 false rfl ⟨fun r => absurd r (by decide), fun r => absurd r c6⟩
  · rw [if_pos (show ¬ nI (zt_K T n t) = (12 : Int32) from zr_ne (b := 12) c1 (by omega) (by decide)), if_neg c1]
    by_cases c2 : 28 ≤ zt_K T n t ∧ zt_K T n t ≤ 35
    · rw [if_neg (show ¬ nI (zt_K T n t) < (28 : Int32) from nI_nlt (b := 28) c2.1 (by omega)), if_neg (show ¬ (35 : Int32) < nI (zt_K T n t) from nI_nlt (a := 35) c2.2 (by decide)), if_pos c2]
      rcases h.take (sw := sw) (k := zt_K T n t) (rv := 1) (rm := true) hX ht hg (by omega) kb (by omega) rfl rfl with ⟨-, -, k3, k4, I2, k5, k6⟩ | ⟨I2, k2, k3, k4⟩
      · obtain ⟨I3, m1, m2⟩ := k6.add (sw := sw) (by omega) (zt_K T n t) 0
        have m1 : f_X1_addCode (zE_h b) (nI (zt_K T n t)) 0 I2 (zE_R sw) = some I3 := m1
        rw [k5, Option.bind_some, hr, gh, zw_g_t, m1, Option.bind_some, if_pos k3]
        refine ⟨I3, rfl, ?_⟩
        show zc_E b I0 I3 cl (t + 1) (cc ++ [zr_ck (1, zp_mv (zt_K T n t - 28))])
        have ek : zr_ck (1, zp_mv (zt_K T n t - 28)) = (zt_K T n t, 0) := by
          show (28 + zr_cv (zp_mv (zt_K T n t - 28)), 0) = _
          rw [(zp_mvE (zt_K T n t - 28) (by omega)).1, show 28 + (zt_K T n t - 28) = zt_K T n t by omega]
        rw [ek]
        exact m2
      · obtain ⟨I3, m1, m2⟩ := k4.add (sw := sw) (nI (zt_K T n t)) 0
        rw [k3, Option.bind_some, hr, gh, zw_g_t, m1, Option.bind_some, if_neg (fun r => k2 ⟨rfl, rfl, r⟩)]
        rw [if_pos rfl] at m2
        exact ⟨I3, rfl, m2⟩
    · have j85 : ∃ I2, j_X3_readUnit_85 g 7 2 I (zE_R sw) J = some I2 ∧ zc_R b T n I0 I2 cl cc (if zt_K T n t = 3 then (if t < 500 then .inl (t + 1, [(0, zp_V T n t)]) else .inr (2, t)) else .inr (1, t)) := by
        have i1 : zw_in (nI t) 501 = true := zE_in (by omega) (by decide)
        have i2 : Int32.toNatClampNeg (nI t) = t := zE_cl (by omega)
        have h3 := h.2.2.1
        unfold j_X3_readUnit_85
        simp only [zE_gC, zE_rC sw, zE_sC, zw_g_t, zw_let_e, h3, i1, i2, hr, gh]
        rcases h.take (sw := sw) (k := 3) (kv := 3) (rv := 1) (rm := true) hX ht hg (by omega) (by decide) (by decide) rfl rfl with ⟨k1, -, k3, k4, I2, k5, k6⟩ | ⟨I2, k2, k3, k4⟩
        · obtain ⟨I3, m1, m2⟩ := k6.add (sw := sw) (by omega) 3 (zp_V T n t)
          have m1 : f_X1_addCode (zE_h b) 3 (nI (zp_V T n t)) I2 (zE_R sw) = some I3 := m1
          rw [k5, Option.bind_some, zp_val hX ht hg k1, m1, Option.bind_some, if_pos k1, if_pos k3]
          exact ⟨I3, rfl, m2⟩
        · obtain ⟨I3, m1, m2⟩ := k4.add (sw := sw) 3 (Int64.toInt32 (J 6 t))
          rw [k3, Option.bind_some, m1, Option.bind_some]
          refine ⟨I3, rfl, ?_⟩
          by_cases q : zt_K T n t = 3
          · rw [if_pos q] at m2
            rw [if_pos q, if_neg (fun r => k2 ⟨q, rfl, r⟩)]
            exact m2
          · rw [if_neg q] at m2
            rw [if_neg q]
            exact m2
      rw [if_neg c2]
      by_cases c3 : zt_K T n t < 28
      · rw [if_pos (show nI (zt_K T n t) < (28 : Int32) from nI_lt (b := 28) c3 (by decide))]
        exact j85
      · rw [if_neg (show ¬ nI (zt_K T n t) < (28 : Int32) from nI_nlt (b := 28) (by omega) (by omega)), if_pos (show (35 : Int32) < nI (zt_K T n t) from nI_lt (a := 35) (by omega) (by omega))]
        exact j85
