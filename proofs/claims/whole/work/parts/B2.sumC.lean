/-! ===== the class reads products and sums ===== -/
theorem zc_mulF {sw b : Bool} {I0 I : zI} {J : zJ} {T : Nat → Nat} {n f e N : Nat} {g : Nat → Nat → Int32 → zI → zR → zJ → Option zI} {v2 v3 v5 k : Int32} (h : zc_F b T n I0 I f e) : zw_it (s_X3_readSum_48 g 7 2 v2 v3 v5 (zE_R sw) J) (N + 1) (1, k, I) = some (1, I) := by
  refine zE_it0 N ?_
  unfold s_X3_readSum_48
  dsimp only
  by_cases c : 500 ≤ k
  · rw [if_pos c]
  · rw [if_neg c, if_neg (show ¬ (1 : Int32) = 10 by decide), if_pos (show ¬ (1 : Int32) = 11 by decide)]
/-- what a unit's reader does -/
def zc_UR (sw b : Bool) (T : Nat → Nat) (n : Nat) (I0 : zI) (J : zJ) (g : Nat → Nat → Int32 → zI → zR → zJ → Option zI) (v2 : Int32) (U : Nat → zp_O) : Prop := ∀ (I : zI) (cl t : Nat) (cc : List zr_C), zc_E b I0 I cl t cc → t ≤ 500 → zt_go T n t → cl + cc.length ≤ t → ∃ I2, f_X3_readUnit g 7 2 v2 I (zE_R sw) J = some I2 ∧ zc_R b T n I0 I2 cl cc (U t)
/-- the kind of the next token; 1 behind a fault -/
def zc_kv (T : Nat → Nat) (n : Nat) (ω : zp_O) : Int32 := match ω with
  | .inl x => nI (zt_K T n x.1)
  | .inr _ => 1
theorem zc_kindR {sw b : Bool} {I0 I : zI} {J : zJ} {T : Nat → Nat} {n cl : Nat} {cc : List zr_C} {ω : zp_O} {t : Nat} (hX : zp_X T n I0 J) (h : zc_R b T n I0 I cl cc ω) (ho : zp_ok T n t ω) : f_X3_kind 7 2 I (zE_R sw) = some (zc_kv T n ω) := by
  cases ω with
  | inl x =>
    have h : zc_E b I0 I cl x.1 (cc ++ x.2.map zr_ck) := h
    exact h.kind hX ho.2.1 ho.2.2.1
  | inr y =>
    have h : zc_F b T n I0 I y.1 y.2 := h
    exact zp_kindF h.ne
theorem zc_mul {sw b : Bool} {I0 : zI} {J : zJ} {T : Nat → Nat} {n : Nat} {g : Nat → Nat → Int32 → zI → zR → zJ → Option zI} {v2 v3 v5 : Int32} {U : Nat → zp_O} (hr : zE_R sw 7 2 = zE_h b) (hX : zp_X T n I0 J) (hU0 : ∀ t, t ≤ 500 → zt_go T n t → zp_ok T n t (U t)) (hU : zc_UR sw b T n I0 J g v2 U) (t0 : Nat) : ∀ (f N t : Nat) (I : zI) (cl : Nat) (cc c : List zr_C), f ≤ 500 → f < N → zc_E b I0 I cl t (cc ++ c.map zr_ck) → t0 < t → t ≤ 500 → zt_go T n t → cl + cc.length ≤ t0 → c.length ≤ t - t0 → ∃ I2, zw_it (s_X3_readSum_48 g 7 2 v2 v3 v5 (zE_R sw) J) N (nI (zt_K T n t), nI (500 - f), I) = some (zc_kv T n (zp_M U (zt_K T n) f t c), I2) ∧ zc_R b T n I0 I2 cl cc (zp_M U (zt_K T n) f t c)
  | f, 0, t, I, cl, cc, c, hf, hN, h, h0, ht, hg, hc, hl => absurd hN (Nat.not_lt_zero _)
  | 0, N + 1, t, I, cl, cc, c, hf, hN, h, h0, ht, hg, hc, hl => by
    refine ⟨I, zE_it0 N ?_, h⟩
    unfold s_X3_readSum_48
    dsimp only
    rw [if_pos (show (500 : Int32) ≤ nI (500 - 0) by decide)]
    rfl
  | f + 1, N + 1, t, I, cl, cc, c, hf, hN, h, h0, ht, hg, hc, hl => by
    have kb := zp_K hX t
    have g7 : zw_gc 7 3 = true := by simp only [zE_gC]
    have gh := (zE_gH b).1
    have lc : (cc ++ c.map zr_ck).length = cc.length + c.length := by rw [List.length_append, List.length_map]
    have nk : ¬ (500 : Int32) ≤ nI (500 - (f + 1)) := nI_ge (b := 500) (by omega) (by decide)
    have nk1 : nI (500 - (f + 1)) + 1 = nI (500 - f) := by rw [nI_1]; congr 1; omega
    unfold zp_M
    by_cases c1 : zt_K T n t = 10 ∨ zt_K T n t = 11
    · rw [if_pos c1]
      -- one round
      have st : s_X3_readSum_48 g 7 2 v2 v3 v5 (zE_R sw) J (nI (zt_K T n t), nI (500 - (f + 1)), I) = j_X3_readSum_70_48 g 7 2 v2 v3 v5 (nI (zt_K T n t)) (nI (500 - (f + 1))) I (zE_R sw) J := by
        unfold s_X3_readSum_48
        dsimp only
        rw [if_neg nk]
        rcases c1 with c1 | c1
        · rw [if_pos (show nI (zt_K T n t) = (10 : Int32) by rw [c1]; rfl)]
        · rw [if_neg (show ¬ nI (zt_K T n t) = (10 : Int32) from zr_ne (b := 10) (by omega) (by omega) (by decide)), if_neg (show ¬ ¬ nI (zt_K T n t) = (11 : Int32) from fun r => r (by rw [c1]; rfl))]
      have ck : zr_ck (zt_K T n t - 6, 0) = (zt_K T n t, 0) := by
        rcases c1 with c1 | c1 <;> rw [c1] <;> rfl
      rcases h.take (sw := sw) (k := zt_K T n t) (rv := 1) (rm := true) hX ht hg (by omega) kb (by omega) rfl rfl with ⟨-, -, k3, k4, I2, k5, k6⟩ | ⟨I2, k2, k3, k4⟩
      · rw [if_pos k3]
        obtain ⟨I3, m1, m2⟩ := hU I2 cl (t + 1) (cc ++ c.map zr_ck) k6 (by omega) k4 (by omega)
        have uo := hU0 (t + 1) (by omega) k4
        cases hu : U (t + 1) with
        | inr x =>
          rw [hu] at m2
          have m2 : zc_F b T n I0 I3 x.1 x.2 := m2
          obtain ⟨I4, p1, p2⟩ := m2.add (sw := sw) (nI (zt_K T n t)) 0
          have s2 : s_X3_readSum_48 g 7 2 v2 v3 v5 (zE_R sw) J (nI (zt_K T n t), nI (500 - (f + 1)), I) = some (.inl (1, nI (500 - f), I4)) := by
            rw [st]
            unfold j_X3_readSum_70_48
            rw [g7, zw_g_t, k5, Option.bind_some, m1, Option.bind_some, hr, gh, zw_g_t, p1, Option.bind_some, zp_kindF p2.ne, Option.bind_some, zw_let_e, nk1]
          refine ⟨I4, ?_, p2⟩
          rw [zE_it1 N s2, show N = (N - 1) + 1 by omega]
          exact zc_mulF p2
        | inl x =>
          rw [hu] at m2 uo
          obtain ⟨u1, u2, u3, u4⟩ := uo
          have m2 : zc_E b I0 I3 cl x.1 (cc ++ c.map zr_ck ++ x.2.map zr_ck) := m2
          obtain ⟨I4, p1, p2⟩ := m2.add (sw := sw) (by rw [List.length_append, List.length_map]; omega) (zt_K T n t) 0
          have p1 : f_X1_addCode (zE_h b) (nI (zt_K T n t)) 0 I3 (zE_R sw) = some I4 := p1
          have ec : cc ++ c.map zr_ck ++ x.2.map zr_ck ++ [(zt_K T n t, 0)] = cc ++ (c ++ (x.2 ++ [(zt_K T n t - 6, 0)])).map zr_ck := by
            rw [List.map_append, List.map_append, List.append_assoc, List.append_assoc, ← ck]
            rfl
          rw [ec] at p2
          have s2 : s_X3_readSum_48 g 7 2 v2 v3 v5 (zE_R sw) J (nI (zt_K T n t), nI (500 - (f + 1)), I) = some (.inl (nI (zt_K T n x.1), nI (500 - f), I4)) := by
            rw [st]
            unfold j_X3_readSum_70_48
            rw [g7, zw_g_t, k5, Option.bind_some, m1, Option.bind_some, hr, gh, zw_g_t, p1, Option.bind_some, p2.kind hX u2 u3, Option.bind_some, zw_let_e, nk1]
          obtain ⟨I5, r1, r2⟩ := zc_mul (v3 := v3) (v5 := v5) hr hX hU0 hU t0 f N x.1 I4 cl cc (c ++ (x.2 ++ [(zt_K T n t - 6, 0)])) (by omega) (by omega) p2 (by omega) u2 u3 hc (by rw [List.length_append, List.length_append]; show c.length + (x.2.length + 1) ≤ _; omega)
          exact ⟨I5, (zE_it1 N s2).trans r1, r2⟩
      · rw [if_neg (fun r => k2 ⟨rfl, rfl, r⟩)]
        rw [if_pos rfl] at k4
        obtain ⟨I3, m1, m2⟩ := zc_unitF (sw := sw) (J := J) (g := g) (v := v2) hr k4
        obtain ⟨I4, p1, p2⟩ := m2.add (sw := sw) (nI (zt_K T n t)) 0
        have s2 : s_X3_readSum_48 g 7 2 v2 v3 v5 (zE_R sw) J (nI (zt_K T n t), nI (500 - (f + 1)), I) = some (.inl (1, nI (500 - f), I4)) := by
          rw [st]
          unfold j_X3_readSum_70_48
          rw [g7, zw_g_t, k3, Option.bind_some, m1, Option.bind_some, hr, gh, zw_g_t, p1, Option.bind_some, zp_kindF p2.ne, Option.bind_some, zw_let_e, nk1]
        refine ⟨I4, ?_, p2⟩
        rw [zE_it1 N s2, show N = (N - 1) + 1 by omega]
        exact zc_mulF p2
    · rw [if_neg c1]
      refine ⟨I, zE_it0 N ?_, h⟩
      unfold s_X3_readSum_48
      dsimp only
      rw [if_neg nk, if_neg (show ¬ nI (zt_K T n t) = (10 : Int32) from zr_ne (b := 10) (by omega) (by omega) (by decide)), if_pos (show ¬ nI (zt_K T n t) = (11 : Int32) from zr_ne (b := 11) (by omega) (by omega) (by decide))]
      rfl
/-- the sign that waits, as the class has it -/
def zc_wv (w : Nat) : Int32 := if w = 0 then -1 else nI w
theorem zc_sumF {sw : Bool} {I : zI} {J : zJ} {N : Nat} {g : Nat → Nat → Int32 → zI → zR → zJ → Option zI} {v2 v3 i : Int32} : zw_it (s_X3_readSum_19 g 7 2 v2 (zE_R sw) J) (N + 1) (v3, 0, i, I) = some I := by
  refine zE_it0 N ?_
  unfold s_X3_readSum_19
  dsimp only
  rw [if_pos rfl]
theorem zc_sum {sw b : Bool} {I0 : zI} {J : zJ} {T : Nat → Nat} {n : Nat} {g : Nat → Nat → Int32 → zI → zR → zJ → Option zI} {v2 : Int32} {U : Nat → zp_O} (hr : zE_R sw 7 2 = zE_h b) (hX : zp_X T n I0 J) (hU0 : ∀ t, t ≤ 500 → zt_go T n t → zp_ok T n t (U t)) (hU : zc_UR sw b T n I0 J g v2 U) (t0 : Nat) : ∀ (f N t : Nat) (I : zI) (cl : Nat) (cc c : List zr_C) (w : Nat), f ≤ 500 → f + 1 < N → zc_E b I0 I cl t (cc ++ c.map zr_ck) → t0 ≤ t → t ≤ 500 → zt_go T n t → cl + cc.length ≤ t0 → c.length + (zp_w w).length ≤ t - t0 → (w = 0 ∨ w = 8 ∨ w = 9) → (f = 0 → t0 < t) → ∃ I2, zw_it (s_X3_readSum_19 g 7 2 v2 (zE_R sw) J) N (zc_wv w, 1, nI (500 - f), I) = some I2 ∧ zc_R b T n I0 I2 cl cc (zp_P U (zt_K T n) f t c w)
  | f, 0, t, I, cl, cc, c, w, hf, hN, h, h0, ht, hg, hc, hl, hw, hz => absurd hN (Nat.not_lt_zero _)
  | 0, N + 1, t, I, cl, cc, c, w, hf, hN, h, h0, ht, hg, hc, hl, hw, hz => by
    refine ⟨I, zE_it0 N ?_, h⟩
    unfold s_X3_readSum_19
    dsimp only
    rw [if_neg zE_10, if_pos (show (500 : Int32) ≤ nI (500 - 0) by decide)]
  | f + 1, N + 1, t, I, cl, cc, c, w, hf, hN, h, h0, ht, hg, hc, hl, hw, hz => by
    have g7 : zw_gc 7 3 = true := by simp only [zE_gC]
    have gh := (zE_gH b).1
    have lc : (cc ++ c.map zr_ck).length = cc.length + c.length := by rw [List.length_append, List.length_map]
    have nk : ¬ (500 : Int32) ≤ nI (500 - (f + 1)) := nI_ge (b := 500) (by omega) (by decide)
    have nk1 : nI (500 - (f + 1)) + 1 = nI (500 - f) := by rw [nI_1]; congr 1; omega
    obtain ⟨I2, m1, m2⟩ := hU I cl t (cc ++ c.map zr_ck) h ht hg (by omega)
    have uo := hU0 t ht hg
    have kd := zc_kindR (sw := sw) hX m2 uo
    -- the round, with what the products left
    have st : ∀ (s : Int32) (I3 : zI), zw_it (s_X3_readSum_48 g 7 2 v2 (zc_wv w) (nI (500 - (f + 1))) (zE_R sw) J) 1000000 (zc_kv T n (U t), 0, I2) = some (s, I3) → s_X3_readSum_19 g 7 2 v2 (zE_R sw) J (zc_wv w, 1, nI (500 - (f + 1)), I) = j_X3_readSum_108_19 g 7 2 v2 (zc_wv w) (nI (500 - (f + 1))) s I3 (zE_R sw) J := by
      intro s I3 hq
      unfold s_X3_readSum_19
      dsimp only
      rw [if_neg zE_10, if_neg nk, g7, zw_g_t, m1, Option.bind_some, kd, Option.bind_some, hq, Option.bind_some]
    -- behind a fault the loop ends
    have fin : ∀ (I3 : zI) (f2 e2 : Nat), zc_F b T n I0 I3 f2 e2 → ∃ I4, j_X3_readSum_108_19 g 7 2 v2 (zc_wv w) (nI (500 - (f + 1))) 1 I3 (zE_R sw) J = some (.inl (1, 0, nI (500 - f), I4)) ∧ zc_F b T n I0 I4 f2 e2 := by
      intro I3 f2 e2 hF
      unfold j_X3_readSum_108_19 j_X3_readSum_122_19 j_X3_readSum_154_19 j_X3_readSum_155_19
      simp only [zw_let_e, nk1]
      have last : ∀ I5 : zI, (if (1 : Int32) = 8 then j_X3_readSum_139_19 g 7 2 v2 1 (nI (500 - (f + 1))) 1 I5 (zE_R sw) J else if ¬ (1 : Int32) = 9 then some (Sum.inl (1, 0, nI (500 - f), I5)) else j_X3_readSum_139_19 g 7 2 v2 1 (nI (500 - (f + 1))) 1 I5 (zE_R sw) J) = some (.inl (1, 0, nI (500 - f), I5)) := by
        intro I5
        rw [if_neg (show ¬ (1 : Int32) = 8 by decide), if_pos (show ¬ (1 : Int32) = 9 by decide)]
      by_cases hw0 : w = 0
      · rw [if_pos (show zc_wv w = -1 by rw [hw0]; rfl), last]
        exact ⟨I3, rfl, hF⟩
      · have e1 : zc_wv w = nI w := by unfold zc_wv; rw [if_neg hw0]
        obtain ⟨I4, p1, p2⟩ := hF.add (sw := sw) (nI w) 0
        rw [e1, if_neg (zq_nm1 (by omega)), g7, zw_g_t, hr, gh, zw_g_t, p1, Option.bind_some, last]
        exact ⟨I4, rfl, p2⟩
    unfold zp_P
    cases hu : U t with
    | inr x =>
      rw [hu] at m2 st
      have m2 : zc_F b T n I0 I2 x.1 x.2 := m2
      have s1 := st 1 I2 (zc_mulF (N := 999999) m2)
      obtain ⟨I4, p1, p2⟩ := fin I2 x.1 x.2 m2
      refine ⟨I4, ?_, p2⟩
      rw [zE_it1 N (s1.trans p1), show N = (N - 1) + 1 by omega]
      exact zc_sumF
    | inl x =>
      rw [hu] at m2 st uo
      obtain ⟨u1, u2, u3, u4⟩ := uo
      have m2 : zc_E b I0 I2 cl x.1 (cc ++ c.map zr_ck ++ x.2.map zr_ck) := m2
      obtain ⟨I3, q1, q2⟩ := zc_mul (v3 := zc_wv w) (v5 := nI (500 - (f + 1))) hr hX hU0 hU t 500 1000000 x.1 I2 cl (cc ++ c.map zr_ck) x.2 (by decide) (by decide) m2 u1 u2 u3 (by omega) u4
      have q1 : zw_it (s_X3_readSum_48 g 7 2 v2 (zc_wv w) (nI (500 - (f + 1))) (zE_R sw) J) 1000000 (nI (zt_K T n x.1), 0, I2) = _ := q1
      have mo := zp_M_ok (t0 := t) hU0 500 x.1 x.2 u1 u2 u3 u4
      have s1 := st _ _ q1
      unfold zc_kv at s1
      dsimp only
      cases hm : zp_M U (zt_K T n) 500 x.1 x.2 with
      | inr y =>
        rw [hm] at q2 s1
        have q2 : zc_F b T n I0 I3 y.1 y.2 := q2
        obtain ⟨I4, p1, p2⟩ := fin I3 y.1 y.2 q2
        refine ⟨I4, ?_, p2⟩
        rw [zE_it1 N (s1.trans p1), show N = (N - 1) + 1 by omega]
        exact zc_sumF
      | inl y =>
        rw [hm] at q2 s1 mo
        obtain ⟨y1, y2, y3, y4⟩ := mo
        have q2 : zc_E b I0 I3 cl y.1 (cc ++ c.map zr_ck ++ y.2.map zr_ck) := q2
        have kb := zp_K hX y.1
        dsimp only at s1 ⊢
        -- the sign that waited comes out
        have out : ∃ I4, j_X3_readSum_108_19 g 7 2 v2 (zc_wv w) (nI (500 - (f + 1))) (nI (zt_K T n y.1)) I3 (zE_R sw) J = j_X3_readSum_122_19 g 7 2 v2 (nI (500 - (f + 1))) (nI (zt_K T n y.1)) I4 (zE_R sw) J ∧ zc_E b I0 I4 cl y.1 (cc ++ (c ++ (y.2 ++ zp_w w)).map zr_ck) := by
          unfold j_X3_readSum_108_19
          rcases hw with rfl | hw
          · refine ⟨I3, by rw [if_pos (show zc_wv 0 = -1 from rfl)], ?_⟩
            have ec : cc ++ (c ++ (y.2 ++ zp_w 0)).map zr_ck = cc ++ c.map zr_ck ++ y.2.map zr_ck := by
              show cc ++ (c ++ (y.2 ++ [])).map zr_ck = _
              rw [List.append_nil, List.map_append, List.append_assoc]
            rw [ec]
            exact q2
          · have e1 : zc_wv w = nI w := by unfold zc_wv; rw [if_neg (by omega)]
            have lw : (zp_w w).length = 1 := by unfold zp_w; rw [if_neg (by omega)]; rfl
            obtain ⟨I4, p1, p2⟩ := q2.add (sw := sw) (by rw [List.length_append, List.length_map]; omega) w 0
            have p1 : f_X1_addCode (zE_h b) (nI w) 0 I3 (zE_R sw) = some I4 := p1
            refine ⟨I4, by rw [e1, if_neg (zq_nm1 (by omega)), g7, zw_g_t, hr, gh, zw_g_t, p1, Option.bind_some], ?_⟩
            have ck : zr_ck (w - 6, 0) = (w, 0) := by rcases hw with rfl | rfl <;> rfl
            have ec : cc ++ (c ++ (y.2 ++ zp_w w)).map zr_ck = cc ++ c.map zr_ck ++ y.2.map zr_ck ++ [(w, 0)] := by
              unfold zp_w
              rw [if_neg (by omega), List.map_append, List.map_append, List.append_assoc, List.append_assoc, ← ck]
              rfl
            rw [ec]
            exact p2
        obtain ⟨I4, o1, o2⟩ := out
        rw [o1] at s1
        have ll : (c ++ (y.2 ++ zp_w w)).length ≤ y.1 - t0 := by rw [List.length_append, List.length_append]; omega
        have lcc : (cc ++ (c ++ (y.2 ++ zp_w w)).map zr_ck).length = cc.length + (c ++ (y.2 ++ zp_w w)).length := by rw [List.length_append, List.length_map]
        by_cases c1 : zt_K T n y.1 = 8 ∨ zt_K T n y.1 = 9
        · rw [if_pos c1]
          have s122 : j_X3_readSum_122_19 g 7 2 v2 (nI (500 - (f + 1))) (nI (zt_K T n y.1)) I4 (zE_R sw) J = j_X3_readSum_139_19 g 7 2 v2 (nI (zt_K T n y.1)) (nI (500 - (f + 1))) (nI (zt_K T n y.1)) I4 (zE_R sw) J := by
            unfold j_X3_readSum_122_19
            rcases c1 with c1 | c1
            · rw [if_pos (show nI (zt_K T n y.1) = (8 : Int32) by rw [c1]; rfl)]
            · rw [if_neg (show ¬ nI (zt_K T n y.1) = (8 : Int32) from zr_ne (b := 8) (by omega) (by omega) (by decide)), if_neg (show ¬ ¬ nI (zt_K T n y.1) = (9 : Int32) from fun r => r (by rw [c1]; rfl))]
          rw [s122] at s1
          rcases o2.take (sw := sw) (k := zt_K T n y.1) (rv := 1) (rm := true) hX y2 y3 (by omega) kb (by omega) rfl rfl with ⟨-, -, k3, k4, I5, k5, k6⟩ | ⟨I5, k2, k3, k4⟩
          · rw [if_pos k3]
            have wv : zc_wv (zt_K T n y.1) = nI (zt_K T n y.1) := by unfold zc_wv; rw [if_neg (by omega)]
            have s2 : s_X3_readSum_19 g 7 2 v2 (zE_R sw) J (zc_wv w, 1, nI (500 - (f + 1)), I) = some (.inl (zc_wv (zt_K T n y.1), 1, nI (500 - f), I5)) := by
              rw [s1, wv]
              unfold j_X3_readSum_139_19 j_X3_readSum_155_19
              rw [g7, zw_g_t, k5, Option.bind_some, if_neg zE_10, zw_let_e, nk1]
            have lw := zp_w_len (zt_K T n y.1)
            obtain ⟨I6, r1, r2⟩ := zc_sum hr hX hU0 hU t0 f N (y.1 + 1) I5 cl cc (c ++ (y.2 ++ zp_w w)) (zt_K T n y.1) (by omega) (by omega) k6 (by omega) (by omega) k4 hc (by omega) (Or.inr c1) (fun _ => by omega)
            exact ⟨I6, (zE_it1 N s2).trans r1, r2⟩
          · rw [if_neg (fun r => k2 ⟨rfl, rfl, r⟩)]
            rw [if_pos rfl] at k4
            have s2 : s_X3_readSum_19 g 7 2 v2 (zE_R sw) J (zc_wv w, 1, nI (500 - (f + 1)), I) = some (.inl (nI (zt_K T n y.1), 0, nI (500 - f), I5)) := by
              rw [s1]
              unfold j_X3_readSum_139_19 j_X3_readSum_154_19 j_X3_readSum_155_19
              rw [g7, zw_g_t, k3, Option.bind_some, if_pos rfl, zw_let_e, nk1]
            refine ⟨I5, ?_, k4⟩
            rw [zE_it1 N s2, show N = (N - 1) + 1 by omega]
            exact zc_sumF
        · rw [if_neg c1]
          have s2 : s_X3_readSum_19 g 7 2 v2 (zE_R sw) J (zc_wv w, 1, nI (500 - (f + 1)), I) = some (.inl (nI (zt_K T n y.1), 0, nI (500 - f), I4)) := by
            rw [s1]
            unfold j_X3_readSum_122_19 j_X3_readSum_154_19 j_X3_readSum_155_19
            rw [if_neg (show ¬ nI (zt_K T n y.1) = (8 : Int32) from zr_ne (b := 8) (by omega) (by omega) (by decide)), if_pos (show ¬ nI (zt_K T n y.1) = (9 : Int32) from zr_ne (b := 9) (by omega) (by omega) (by decide)), zw_let_e, nk1]
          refine ⟨I4, ?_, o2⟩
          rw [zE_it1 N s2, show N = (N - 1) + 1 by omega]
          exact zc_sumF
/-- a whole E, at depth d -/
theorem zc_readSum {sw b : Bool} {I0 : zI} {J : zJ} {T : Nat → Nat} {n : Nat} (hr : zE_R sw 7 2 = zE_h b) (hX : zp_X T n I0 J) : ∀ (m d : Nat), d + m = 8 → 2 ≤ m → ∀ (I : zI) (cl t : Nat) (cc : List zr_C), zc_E b I0 I cl t cc → t ≤ 500 → zt_go T n t → cl + cc.length ≤ t → ∃ I2, r_X3_readSum m 7 2 (nI d) I (zE_R sw) J = some I2 ∧ zc_R b T n I0 I2 cl cc (zp_S (zt_K T n) (zp_V T n) m d t)
  | 0, d, hd, hm, I, cl, t, cc, h, ht, hg, hc => by omega
  | m + 1, d, hd, hm, I, cl, t, cc, h, ht, hg, hc => by
    have g7 : zw_gc 7 3 = true := by simp only [zE_gC]
    have hS0 : ∀ t, t ≤ 500 → zt_go T n t → zp_ok T n t (zp_S (zt_K T n) (zp_V T n) m (d + 1) t) := fun t h1 h2 => zp_S_ok m (d + 1) t h1 h2
    have hU : zc_UR sw b T n I0 J (r_X3_readSum m) (nI d) (zp_U (zp_S (zt_K T n) (zp_V T n) m (d + 1)) (zt_K T n) (zp_V T n) d) := by
      intro I cl t cc h ht hg hc
      exact zc_unit hr hX (by omega) (fun _ => hS0) (fun hd6 I cl t cc h ht hg hc => zc_readSum hr hX m (d + 1) (by omega) (by omega) I cl t cc h ht hg hc) h ht hg hc
    have h' : zc_E b I0 I cl t (cc ++ ([] : List zr_C).map zr_ck) := by rw [List.map_nil, List.append_nil]; exact h
    obtain ⟨I2, q1, q2⟩ := zc_sum hr hX (fun t h1 h2 => zp_U_ok (fun _ => hS0) h1 h2) hU t 500 1000000 t I cl cc [] 0 (by decide) (by decide) h' (Nat.le_refl _) ht hg hc (by show 0 + 0 ≤ _; omega) (Or.inl rfl) (fun r => by cases r)
    refine ⟨I2, ?_, q2⟩
    show f_X3_readSum (r_X3_readSum m) 7 2 (nI d) I (zE_R sw) J = some I2
    unfold f_X3_readSum j_X3_readSum_14
    rw [g7, zw_g_t, if_neg (fun r => r h.2.1)]
    have q1 : zw_it (s_X3_readSum_19 (r_X3_readSum m) 7 2 (nI d) (zE_R sw) J) 1000000 (-1, 1, 0, I) = some I2 := q1
    rw [q1, Option.bind_some]
theorem zc_readSumF {sw b : Bool} {I0 I : zI} {J : zJ} {T : Nat → Nat} {n f e m : Nat} {v : Int32} (h : zc_F b T n I0 I f e) : r_X3_readSum (m + 1) 7 2 v I (zE_R sw) J = some I := by
  show f_X3_readSum (r_X3_readSum m) 7 2 v I (zE_R sw) J = some I
  unfold f_X3_readSum j_X3_readSum_14
  rw [show zw_gc 7 3 = true by simp only [zE_gC], zw_g_t, if_pos h.ne, zc_sumF (N := 999999), Option.bind_some]
