/-! ===== a row, as the model reads it ===== -/
def zx_by (c : Nat) : Int32 := Int8.toInt32 (Int32.toInt8 (nI c))
theorem zx_byE : ∀ c, c < 256 → zt_C c = true → f_X11_cellOf (zx_by c) = some (nI (zt_cn c)) := by decide +kernel
/-- drawings that aren't told yet are written -/
theorem zx_w166 {b : Bool} {T : Nat → Nat} {n : Nat} {I0 I : zI} {J : zJ} {t k a i : Nat} {σ : zx_S} (h : zx_M b T n I0 I J t σ) (hk : k < 10) (hn : ¬ σ.1.has k) (ha : (a = 166 ∧ 144 * (10 * zq_lv b + k) ≤ i ∧ i < 144 * (10 * zq_lv b + k) + 144) ∨ ((a = 164 ∨ a = 165) ∧ i = 10 * zq_lv b + k)) (v : Int32) : zx_M b T n I0 (zw_u I a i v) J t σ := by
  have hlv := zq_lv1 b
  have F : zx_Fm b I0 (zw_u I a i v) := by
    rcases ha with ⟨rfl, h1, h2⟩ | ⟨rfl | rfl, rfl⟩
    · have lw := zx_lv16 (b := b) (W := 1440) (k := i - 1440 * zq_lv b) (by omega)
      exact h.1.w v (by decide) (by decide) (by show zq_lv b * 1440 ≤ i; omega) (by show i < (zq_lv b + 1) * 1440; omega)
    · have lw := zx_lv16 (b := b) (W := 10) (k := k) hk
      exact h.1.w v (by decide) (by decide) lw.1 lw.2
    · have lw := zx_lv16 (b := b) (W := 10) (k := k) hk
      exact h.1.w v (by decide) (by decide) lw.1 lw.2
  refine zx_M_fr h F (fun c hc => zw_u_off _ _ _ (by omega)) (fun j hj => ⟨fun c hc => ⟨?_, ?_⟩, ?_⟩) (fun j hj ok hd => ?_)
  · rw [zw_u_off _ _ _ (by omega)]
  · rw [zw_u_off _ _ _ (by omega)]
  · rw [zw_u_off _ _ _ (by omega)]
  · have jk : j ≠ k := fun e => hn (by rw [← e]; exact hj)
    have w2 := ok.w2
    have t2 := ok.t2
    refine ⟨?_, ?_, fun x y hx hy => ?_⟩
    · rw [zE_u2 _ _ (by omega)]; exact hd.1
    · rw [zE_u2 _ _ (by omega)]; exact hd.2.1
    · rw [zE_u2 _ _ (by omega)]; exact hd.2.2 x y hx hy
theorem zx_bor : ∀ s : Bool, ∀ c, c ≤ 6 → (if ¬ zr_b s = 0 then (1 : Int32) else if nI c ≤ 0 then 0 else 1) = zr_b (s || decide (c ≠ 0)) := by decide +kernel
theorem zx_121 {sw b : Bool} {T : Nat → Nat} {n : Nat} {I0 : zI} {J : zJ} {t k w h : Nat} {σ : zx_S} {v2 : Int32} (hk : k < 10) (hn : ¬ σ.1.has k) (h4 : zt_K T n t = 4) (ht : t ≤ 500) (hg : zt_go T n t) (hx : ∀ j, j < n → I0 150 j = zx_by (T j)) (hw : w ≤ 12) (hh : h < 12) : ∀ (d x N : Nat) (s : Bool) (I : zI), x + d = zp_V T n t → d + 1 ≤ N → zx_M b T n I0 I J t σ → I 164 (10 * zq_lv b + k) = nI w → I 165 (10 * zq_lv b + k) = nI h → ∃ I2 s2, zw_it (s_X11_tellRows_121 148 (nI (10 * zq_lv b + k)) v2 (nI (zp_V T n t)) (zE_R sw) J) N (zr_b s, nI x, I) = some (zr_b s2, I2) ∧ zx_M b T n I0 I2 J t σ ∧ (∀ a, a ≠ 166 → I2 a = I a) ∧ (∀ j, I2 166 j = if 144 * (10 * zq_lv b + k) + 12 * h + x ≤ j ∧ j < 144 * (10 * zq_lv b + k) + 12 * h + zp_V T n t ∧ j < 144 * (10 * zq_lv b + k) + 12 * h + w then nI (zt_cn (T (zt_a T n t + 1 + (j - (144 * (10 * zq_lv b + k) + 12 * h))))) else I 166 j) ∧ (s2 = true ↔ (s = true ∨ ∃ y, x ≤ y ∧ y < zp_V T n t ∧ zt_cn (T (zt_a T n t + 1 + y)) ≠ 0))
  | d, x, 0, s, I, _, hN, _, _, _ => absurd hN (by omega)
  | 0, x, N + 1, s, I, hd, hN, hM, h1, h2 => by
    obtain ⟨-, -, v1, v12, -⟩ := zx_K4 h4
    refine ⟨I, s, zE_it0 N ?_, hM, fun _ _ => rfl, fun j => by rw [if_neg (by omega)], ⟨fun q => Or.inl q, fun q => ?_⟩⟩
    · unfold s_X11_tellRows_121
      dsimp only
      rw [if_pos (nI_le (show zp_V T n t ≤ x by omega) (by omega))]
    · rcases q with q | ⟨y, q1, q2, -⟩
      · exact q
      · omega
  | d + 1, x, N + 1, s, I, hd, hN, hM, h1, h2 => by
    have hlv := zq_lv1 b
    obtain ⟨-, -, v1, v12, v5⟩ := zx_K4 h4
    obtain ⟨l1, l2⟩ := v5 x (by omega)
    have n2 := hM.2.2.1.1
    have tb := hM.2.2.1.2.1 _ l1
    obtain ⟨-, y2, -, -⟩ := hM.2.2.1.2.2 t ht hg
    have e150 : I 150 (zt_a T n t + 1 + x) = zx_by (T (zt_a T n t + 1 + x)) := by rw [hM.1.1 150 (by decide) (by decide)]; exact hx _ l1
    have c6 := zx_cn6 (T (zt_a T n t + 1 + x))
    have cell := zx_byE _ tb l2
    have h11 := hM.2.1.2.1
    have ip : nI (zt_a T n t) + 1 + nI x = nI (zt_a T n t + 1 + x) := by rw [nI_1, nI_add]
    obtain ⟨i, ei⟩ : ∃ i, i = 144 * (10 * zq_lv b + k) + 12 * h + x := ⟨_, rfl⟩
    have ix : 144 * nI (10 * zq_lv b + k) + 12 * nI h + nI x = nI i := by rw [show (144 : Int32) = nI 144 from rfl, show (12 : Int32) = nI 12 from rfl, pk_mul, pk_mul, nI_add, nI_add, ei]
    have j188 : ∀ K : zI, j_X11_tellRows_188_121 148 (nI (10 * zq_lv b + k)) v2 (zr_b s) (nI (zp_V T n t)) (nI x) (nI (zt_cn (T (zt_a T n t + 1 + x)))) K (zE_R sw) J = some (.inl (zr_b (s || decide (zt_cn (T (zt_a T n t + 1 + x)) ≠ 0)), nI (x + 1), K)) := by
      intro K
      rw [← zx_bor s _ c6]
      unfold j_X11_tellRows_188_121 j_X11_tellRows_197_121 j_X11_tellRows_202_121
      simp only [zw_let_e, nI_1]
      split
      · rfl
      · split <;> rfl
    have st : s_X11_tellRows_121 148 (nI (10 * zq_lv b + k)) v2 (nI (zp_V T n t)) (zE_R sw) J (zr_b s, nI x, I) = some (.inl (zr_b (s || decide (zt_cn (T (zt_a T n t + 1 + x)) ≠ 0)), nI (x + 1), if x < w then zw_u I 166 i (nI (zt_cn (T (zt_a T n t + 1 + x)))) else I)) := by
      unfold s_X11_tellRows_121
      simp only [zE_gM, zE_rM sw, zE_sM, zw_g_t, zw_let_e, h11, zE_in (show t < 503 by omega) (by decide), zE_cl (show t < 2 ^ 31 by omega), y2, ip, zE_in (show zt_a T n t + 1 + x < 2000 by omega) (by decide), zE_cl (show zt_a T n t + 1 + x < 2 ^ 31 by omega), e150, cell, Option.bind_some, zE_in (show 10 * zq_lv b + k < 20 by omega) (by decide), zE_cl (show 10 * zq_lv b + k < 2 ^ 31 by omega), h1, h2, ix, zE_in (show i < 2880 by omega) (by decide), zE_cl (show i < 2 ^ 31 by omega), j188]
      rw [if_neg (show ¬ nI (zp_V T n t) ≤ nI x from nI_ge (by omega) (by omega))]
      by_cases c : x < w
      · rw [if_neg (show ¬ nI w ≤ nI x from nI_ge c (by omega)), if_pos c]
      · rw [if_pos (show nI w ≤ nI x from nI_le (by omega) (by omega)), if_neg c]
    have M1 : zx_M b T n I0 (if x < w then zw_u I 166 i (nI (zt_cn (T (zt_a T n t + 1 + x)))) else I) J t σ := by
      split
      · exact zx_w166 hM hk hn (Or.inl ⟨rfl, by omega, by omega⟩) _
      · exact hM
    have f1 : ∀ a, a ≠ 166 → (if x < w then zw_u I 166 i (nI (zt_cn (T (zt_a T n t + 1 + x)))) else I) a = I a := by
      intro a ha
      split
      · exact zw_u_off _ _ _ ha
      · rfl
    obtain ⟨I2, s2, r1, r2, r3, r4, r5⟩ := zx_121 (sw := sw) (b := b) (T := T) (n := n) (I0 := I0) (J := J) (σ := σ) (v2 := v2) hk hn h4 ht hg hx hw hh d (x + 1) N (s || decide (zt_cn (T (zt_a T n t + 1 + x)) ≠ 0)) _ (by omega) (by omega) M1 (by rw [f1 164 (by decide)]; exact h1) (by rw [f1 165 (by decide)]; exact h2)
    refine ⟨I2, s2, (zE_it1 N st).trans r1, r2, fun a ha => (r3 a ha).trans (f1 a ha), fun j => ?_, ?_⟩
    · rw [r4 j]
      by_cases cj : j = i
      · rw [cj, if_neg (by omega)]
        by_cases c : x < w
        · rw [if_pos c, zE_u1, if_pos (by omega), show i - (144 * (10 * zq_lv b + k) + 12 * h) = x by omega]
        · rw [if_neg c, if_neg (by omega)]
      · by_cases c2 : 144 * (10 * zq_lv b + k) + 12 * h + (x + 1) ≤ j ∧ j < 144 * (10 * zq_lv b + k) + 12 * h + zp_V T n t ∧ j < 144 * (10 * zq_lv b + k) + 12 * h + w
        · rw [if_pos c2, if_pos (by omega)]
        · rw [if_neg c2, if_neg (show ¬ (144 * (10 * zq_lv b + k) + 12 * h + x ≤ j ∧ j < 144 * (10 * zq_lv b + k) + 12 * h + zp_V T n t ∧ j < 144 * (10 * zq_lv b + k) + 12 * h + w) by omega)]
          by_cases c : x < w
          · rw [if_pos c, zE_u2 _ _ (by omega)]
          · rw [if_neg c]
    · rw [r5, Bool.or_eq_true, decide_eq_true_iff]
      constructor
      · rintro ((q | q) | ⟨y, q1, q2, q3⟩)
        · exact Or.inl q
        · exact Or.inr ⟨x, Nat.le_refl _, by omega, q⟩
        · exact Or.inr ⟨y, by omega, q2, q3⟩
      · rintro (q | ⟨y, q1, q2, q3⟩)
        · exact Or.inl (Or.inl q)
        · by_cases e : y = x
          · rw [e] at q3; exact Or.inl (Or.inr q3)
          · exact Or.inr ⟨y, by omega, q2, q3⟩
/-- how far a drawing is, in the model -/
def zx_dm (b : Bool) (I : zI) (k : Nat) (d : zq_D) (q : Nat × Nat) (s : Bool) : Prop := (d.t ≠ 0 → I 164 (10 * zq_lv b + k) = nI d.w) ∧ I 165 (10 * zq_lv b + k) = nI d.t ∧ (q.1 = 0 → (∀ x y, x < d.w → y < d.t → I 166 (144 * (10 * zq_lv b + k) + 12 * y + x) = nI (d.c x y)) ∧ (s = true ↔ ∃ x y, x < d.w ∧ y < d.t ∧ d.c x y ≠ 0))
/-- a row -/
theorem zx_118 {sw b : Bool} {T : Nat → Nat} {n : Nat} {I0 I : zI} {J : zJ} {t k : Nat} {H : zq_H} {Q : zr_Q} {ts : List Nat} {q q2 : Nat × Nat} {d : zq_D} {s : Bool} {v2 : Int32} (hk : k < 10) (hn : ¬ H.has k) (h4 : zt_K T n t = 4) (ht : t ≤ 500) (hg : zt_go T n t) (hx : ∀ j, j < n → I0 150 j = zx_by (T j)) (hd : d.t < 12) (hw : d.t = 0 ∨ d.w ≤ 12) (h : zx_M b T n I0 I J t (H, Q, ts, q2)) (w1 : I 164 (10 * zq_lv b + k) = nI (if d.t = 0 then zp_V T n t else d.w)) (w2 : I 165 (10 * zq_lv b + k) = nI d.t) (w3 : q2.1 = 0 → q.1 = 0 ∧ (d.t = 0 ∨ zp_V T n t = d.w)) (w4 : q.1 = 0 → (∀ x y, x < d.w → y < d.t → I 166 (144 * (10 * zq_lv b + k) + 12 * y + x) = nI (d.c x y)) ∧ (s = true ↔ ∃ x y, x < d.w ∧ y < d.t ∧ d.c x y ≠ 0)) : ∃ I2 s2, j_X11_tellRows_118_37 148 (nI (10 * zq_lv b + k)) v2 (zr_b s) (nI (zp_V T n t)) I (zE_R sw) J = some (.inl (zr_b s2, nI t, I2)) ∧ ((t < 500 ∧ zx_M b T n I0 I2 J (t + 1) (H, Q, ts, q2) ∧ zx_dm b I2 k (zx_row T n t d) q2 s2) ∨ (¬ t < 500 ∧ zx_MF b T n I0 I2 2 t)) := by
  have hlv := zq_lv1 b
  obtain ⟨-, -, v1, v12, v5⟩ := zx_K4 h4
  obtain ⟨w, ew⟩ : ∃ w, w = (if d.t = 0 then zp_V T n t else d.w) := ⟨_, rfl⟩
  rw [← ew] at w1
  have w12 : w ≤ 12 := by
    rw [ew]
    split
    · exact v12
    · rcases hw with r | r
      · contradiction
      · exact r
  obtain ⟨I1, s2, r1, r2, r3, r4, r5⟩ := zx_121 (sw := sw) (b := b) (T := T) (n := n) (I0 := I0) (J := J) (σ := (H, Q, ts, q2)) (v2 := v2) hk hn h4 ht hg hx w12 hd (zp_V T n t) 0 1000000 s I (by omega) (by omega) h w1 w2
  have r1 : zw_it (s_X11_tellRows_121 148 (nI (10 * zq_lv b + k)) v2 (nI (zp_V T n t)) (zE_R sw) J) 1000000 (zr_b s, 0, I) = some (zr_b s2, I1) := r1
  have M2 := zx_w166 r2 hk hn (a := 165) (i := 10 * zq_lv b + k) (Or.inr ⟨Or.inr rfl, rfl⟩) (nI (d.t + 1))
  obtain ⟨K, eK⟩ : ∃ K, K = zw_u I1 165 (10 * zq_lv b + k) (nI (d.t + 1)) := ⟨_, rfl⟩
  rw [← eK] at M2
  have e165 : I1 165 (10 * zq_lv b + k) = nI d.t := by rw [r3 165 (by decide)]; exact w2
  have hj : ∀ I2, f_X11_goesOn 148 K (zE_R sw) = some I2 → j_X11_tellRows_118_37 148 (nI (10 * zq_lv b + k)) v2 (zr_b s) (nI (zp_V T n t)) I (zE_R sw) J = some (.inl (zr_b s2, nI t, I2)) := by
    intro I2 g
    unfold j_X11_tellRows_118_37
    rw [r1, Option.bind_some]
    simp only [zE_gM, zE_rM sw, zE_sM, zw_g_t, zw_let_e, zE_in (show 10 * zq_lv b + k < 20 by omega) (by decide), zE_cl (show 10 * zq_lv b + k < 2 ^ 31 by omega), e165, nI_1, ← eK, g, Option.bind_some, r2.2.1.2.1]
  rcases zx_onM (sw := sw) M2 ht hg with ⟨c, I2, o1, o2⟩ | ⟨c, I2, o1, o2⟩
  · obtain ⟨I2', p1, p2⟩ := zm_T_on (sw := sw) (zx_T0 M2) c
    have e1 : I2' = I2 := by rw [o1] at p1; cases p1; rfl
    subst e1
    refine ⟨I2', s2, hj I2' o1, Or.inl ⟨c, o2, ?_, ?_, fun q0 => ?_⟩⟩
    · intro _
      show I2' 164 (10 * zq_lv b + k) = nI (if d.t = 0 then zp_V T n t else d.w)
      rw [← ew, p2.1 164 (by decide), eK, zw_u_off _ _ _ (by decide), r3 164 (by decide)]
      exact w1
    · show I2' 165 (10 * zq_lv b + k) = nI (d.t + 1)
      rw [p2.1 165 (by decide), eK, zE_u1]
    · obtain ⟨q1, q3⟩ := w3 q0
      obtain ⟨a1, a2⟩ := w4 q1
      have wV : w = zp_V T n t := by
        rw [ew]
        by_cases c0 : d.t = 0
        · rw [if_pos c0]
        · rw [if_neg c0]
          rcases q3 with q3 | q3
          · contradiction
          · exact q3.symm
      have e166 : I2' 166 = I1 166 := by rw [p2.1 166 (by decide), eK, zw_u_off _ _ _ (by decide)]
      refine ⟨fun x y hx1 hy1 => ?_, ?_⟩
      · have hx1 : x < (if d.t = 0 then zp_V T n t else d.w) := hx1
        rw [← ew] at hx1
        have hy1 : y < d.t + 1 := hy1
        show I2' 166 (144 * (10 * zq_lv b + k) + 12 * y + x) = nI (if y = d.t then (if x < zp_V T n t then zt_cn (T (zt_a T n t + 1 + x)) else 0) else d.c x y)
        rw [e166, r4]
        by_cases cy : y = d.t
        · rw [if_pos (by omega), if_pos cy, if_pos (by omega), show 144 * (10 * zq_lv b + k) + 12 * y + x - (144 * (10 * zq_lv b + k) + 12 * d.t) = x by omega]
        · rw [if_neg (by omega), if_neg cy]
          have e : w = d.w := by rw [ew, if_neg (by omega)]
          exact a1 x y (by omega) (by omega)
      · rw [r5, a2]
        constructor
        · rintro (⟨x, y, z1, z2, z3⟩ | ⟨y, z1, z2, z3⟩)
          · refine ⟨x, y, ?_, ?_, ?_⟩
            · show x < (if d.t = 0 then zp_V T n t else d.w)
              rw [if_neg (by omega)]
              exact z1
            · show y < d.t + 1
              omega
            · show (if y = d.t then (if x < zp_V T n t then zt_cn (T (zt_a T n t + 1 + x)) else 0) else d.c x y) ≠ 0
              rw [if_neg (by omega)]
              exact z3
          · refine ⟨y, d.t, ?_, ?_, ?_⟩
            · show y < (if d.t = 0 then zp_V T n t else d.w)
              rw [← ew]
              omega
            · show d.t < d.t + 1
              omega
            · show (if d.t = d.t then (if y < zp_V T n t then zt_cn (T (zt_a T n t + 1 + y)) else 0) else d.c y d.t) ≠ 0
              rw [if_pos rfl, if_pos z2]
              exact z3
        · rintro ⟨x, y, z1, z2, z3⟩
          have z1 : x < (if d.t = 0 then zp_V T n t else d.w) := z1
          rw [← ew] at z1
          have z2 : y < d.t + 1 := z2
          have z3 : (if y = d.t then (if x < zp_V T n t then zt_cn (T (zt_a T n t + 1 + x)) else 0) else d.c x y) ≠ 0 := z3
          by_cases cy : y = d.t
          · rw [if_pos cy, if_pos (by omega)] at z3
            exact Or.inr ⟨x, Nat.zero_le _, by omega, z3⟩
          · rw [if_neg cy] at z3
            have e : w = d.w := by rw [ew, if_neg (by omega)]
            exact Or.inl ⟨x, y, by omega, by omega, z3⟩
  · exact ⟨I2, s2, hj I2 o1, Or.inr ⟨c, o2⟩⟩
