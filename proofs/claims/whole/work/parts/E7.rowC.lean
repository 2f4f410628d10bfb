/-! ===== a drawing in the class: a row more, and measuring ===== -/
theorem zx_cell {sw : Bool} {I : zI} {o : Nat} {d : zq_D} (hr : zq_dr sw o) (hw : d.w ≤ 12) (ht : d.t ≤ 12) (h : zq_DC I o d) {x y : Nat} (hx : x < d.w) (hy : y < d.t) : f_X0_cellAt o (nI x) (nI y) I (zE_R sw) = some (nI (d.c x y)) := by
  obtain ⟨g1, g2, g3, g4⟩ := hr
  unfold f_X0_cellAt
  rw [if_neg (nI_pos (n := x) (by omega)), g1, zw_g_t, h.1, if_neg (nI_ge hx (by omega)), if_neg (nI_pos (n := y) (by omega)), h.2.1, if_neg (nI_ge hy (by omega)), g2, g3, zw_g_t, g4, zq_n12, zE_in (by omega) (by decide), zw_g_t, zE_cl (by omega), h.2.2 x y hx hy]
/-- the cells of a row -/
theorem zx_addL {sw : Bool} {T : Nat → Nat} {n o w y p L : Nat} (hr : zq_dr sw o) (ho : 8 ≤ o) (hw : w ≤ 12) (hy : y < 12) (hL : ∀ i, i < L → p + i < n ∧ zt_C (T (p + i)) = true) (hL12 : L ≤ 12) (hp : p ≤ 2001) : ∀ (d x N : Nat) (I : zI), x + d = w → d + 1 ≤ N → I o 1 = nI w → I o 2 = nI y → zt_TC I T n → ∃ I2, zw_it (s_X0_addRow_30 o 2 (nI p) (nI L) (zE_R sw)) N (nI x, I) = some I2 ∧ (∀ a, a ≠ o + 1 → I2 a = I a) ∧ ∀ j, I2 (o + 1) j = if 12 * y + x ≤ j ∧ j < 12 * y + w then nI (if j - 12 * y < L then zt_cn (T (p + (j - 12 * y))) else 0) else I (o + 1) j
  | d, x, 0, I, _, hN, _, _, _ => absurd hN (by omega)
  | 0, x, N + 1, I, hx, hN, h1, h2, hT => by
    refine ⟨I, zE_it0 N ?_, fun _ _ => rfl, fun j => by rw [if_neg (by omega)]⟩
    unfold s_X0_addRow_30
    rw [hr.1, zw_g_t]
    dsimp only
    rw [if_pos (show I o 1 ≤ nI x by rw [h1]; exact nI_le (by omega) (by omega))]
  | d + 1, x, N + 1, I, hx, hN, h1, h2, hT => by
    obtain ⟨g1, g2, g3, g4⟩ := id hr
    have hj : ∀ v : Int32, j_X0_addRow_74_30 o 2 (nI p) (nI L) (nI x) (o + 1) (12 * nI y + nI x) v I (zE_R sw) = some (.inl (nI (x + 1), zw_u I (o + 1) (12 * y + x) v)) := by
      intro v
      unfold j_X0_addRow_74_30
      rw [g3, zw_g_t, g4, zq_n12, zE_in (show 12 * y + x < 144 by omega) (by decide), zw_g_t, zE_cl (show 12 * y + x < 2 ^ 31 by omega), zw_let_e, zw_let_e, nI_1]
    have st : s_X0_addRow_30 o 2 (nI p) (nI L) (zE_R sw) (nI x, I) = some (.inl (nI (x + 1), zw_u I (o + 1) (12 * y + x) (nI (if x < L then zt_cn (T (p + x)) else 0)))) := by
      unfold s_X0_addRow_30
      rw [g1, zw_g_t]
      dsimp only
      rw [if_neg (show ¬ I o 1 ≤ nI x by rw [h1]; exact nI_ge (by omega) (by omega)), g2, g3, zw_g_t, h2]
      by_cases c : x < L
      · obtain ⟨l1, l2⟩ := hL x c
        obtain ⟨t1, t2, t3⟩ := id hT
        have tb := (t3 _ l1).2
        have hc : zt_co (T (p + x)) = nI (zt_cn (T (p + x))) := if_pos l2
        have g2' : zw_gc 2 8 = true := by simp only [zE_gC]
        rw [if_neg (nI_ge c (by omega)), g2', zw_g_t, nI_add, zt_byC hT (by omega), Option.bind_some, if_pos l1, zt_b2 _ tb, Option.bind_some, hc, hj, if_pos c]
      · rw [if_pos (nI_le (show L ≤ x by omega) (by omega)), if_neg c]
        exact hj 0
    obtain ⟨I2, r1, r2, r3⟩ := zx_addL (sw := sw) (T := T) (n := n) (y := y) hr ho hw hy hL hL12 hp d (x + 1) N (zw_u I (o + 1) (12 * y + x) (nI (if x < L then zt_cn (T (p + x)) else 0))) (by omega) (by omega) (by rw [zw_u_off _ _ _ (by omega)]; exact h1) (by rw [zw_u_off _ _ _ (by omega)]; exact h2) (zt_TC_tr hT (zw_u_off _ _ _ (by omega)) (zw_u_off _ _ _ (by omega)))
    refine ⟨I2, (zE_it1 N st).trans r1, fun a ha => by rw [r2 a ha, zw_u_off _ _ _ ha], fun j => ?_⟩
    rw [r3 j]
    by_cases c1 : j = 12 * y + x
    · subst c1
      rw [if_neg (show ¬ (12 * y + (x + 1) ≤ 12 * y + x ∧ 12 * y + x < 12 * y + w) by omega), zE_u1, if_pos (show 12 * y + x ≤ 12 * y + x ∧ 12 * y + x < 12 * y + w by omega), show 12 * y + x - 12 * y = x by omega]
    · rw [zE_u2 _ _ (by omega)]
      by_cases c2 : 12 * y + x ≤ j ∧ j < 12 * y + w
      · rw [if_pos c2, if_pos (by omega)]
      · rw [if_neg c2, if_neg (by omega)]
theorem zx_addRowC {sw : Bool} {T : Nat → Nat} {n o t : Nat} {I : zI} {d : zq_D} (hr : zq_dr sw o) (ho : 8 ≤ o) (hT : zt_TC I T n) (hk : zt_K T n t = 4) (h : zq_DC I o d) (ht : d.t < 12) (hw : d.t = 0 ∨ d.w ≤ 12) : ∃ I2, f_X0_addRow o 2 (nI (zt_a T n t) + 1) (nI (zp_V T n t)) I (zE_R sw) = some I2 ∧ (∀ a, a ≠ o → a ≠ o + 1 → I2 a = I a) ∧ zq_DC I2 o (zx_row T n t d) := by
  obtain ⟨k1, k2, k3, k4, k5⟩ := zx_K4 hk
  have n2 := hT.1
  obtain ⟨w, ew⟩ : ∃ w, w = (if d.t = 0 then zp_V T n t else d.w) := ⟨_, rfl⟩
  have w12 : w ≤ 12 := by
    rw [ew]
    split
    · exact k4
    · rcases hw with q | q
      · contradiction
      · exact q
  have key : ∀ K : zI, (∀ a, a ≠ o → K a = I a) → K o 1 = nI w → K o 2 = nI d.t → ∃ I2, j_X0_addRow_27 o 2 (nI (zt_a T n t) + 1) (nI (zp_V T n t)) K (zE_R sw) = some I2 ∧ (∀ a, a ≠ o → a ≠ o + 1 → I2 a = I a) ∧ zq_DC I2 o (zx_row T n t d) := by
    intro K f K1 K2
    obtain ⟨I2, r1, r2, r3⟩ := zx_addL (sw := sw) (T := T) (n := n) (o := o) (w := w) (y := d.t) (p := zt_a T n t + 1) (L := zp_V T n t) hr ho w12 ht k5 k4 (by omega) w 0 1000000 K (by omega) (by omega) K1 K2 (zt_TC_tr hT (f 2 (by omega)) (f 3 (by omega)))
    have r1 : zw_it (s_X0_addRow_30 o 2 (nI (zt_a T n t + 1)) (nI (zp_V T n t)) (zE_R sw)) 1000000 (0, K) = some I2 := r1
    refine ⟨zw_u I2 o 2 (nI (d.t + 1)), ?_, fun a x1 x2 => by rw [zw_u_off _ _ _ x1, r2 a x2, f a x1], ?_, ?_, fun x y hx hy => ?_⟩
    · unfold j_X0_addRow_27
      rw [nI_1, r1, Option.bind_some, hr.1, zw_g_t, zw_let_e, r2 o (by omega), K2, nI_1]
    · show zw_u I2 o 2 (nI (d.t + 1)) o 1 = nI (if d.t = 0 then zp_V T n t else d.w)
      rw [zE_u2 _ _ (by omega), r2 o (by omega), K1, ew]
    · exact zE_u1 _ _ _ _
    · have hx : x < (if d.t = 0 then zp_V T n t else d.w) := hx
      rw [← ew] at hx
      have hy : y < d.t + 1 := hy
      show zw_u I2 o 2 (nI (d.t + 1)) (o + 1) (12 * y + x) = nI (if y = d.t then (if x < zp_V T n t then zt_cn (T (zt_a T n t + 1 + x)) else 0) else d.c x y)
      rw [zw_u_off _ _ _ (by omega), r3]
      by_cases c : y = d.t
      · rw [if_pos (by omega), if_pos c, show 12 * y + x - 12 * d.t = x by omega]
      · rw [if_neg (by omega), if_neg c, f (o + 1) (by omega)]
        have e : w = d.w := by rw [ew, if_neg (by omega)]
        exact h.2.2 x y (by omega) (by omega)
  unfold f_X0_addRow
  rw [hr.1, zw_g_t, h.2.1, if_pos (show nI d.t < (12 : Int32) from nI_lt (b := 12) ht (by decide))]
  by_cases c : d.t = 0
  · rw [if_neg (show ¬ ¬ nI d.t = 0 from fun r => r (by rw [c]; rfl)), if_neg (show ¬ (12 : Int32) < nI (zp_V T n t) from nI_nlt (a := 12) (by omega) (by decide)), zw_let_e, zw_let_e]
    exact key _ (fun a ha => zw_u_off _ _ _ ha) (by rw [zE_u1, ew, if_pos c]) (by rw [zE_u2 _ _ (by omega)]; exact h.2.1)
  · rw [if_pos (show ¬ nI d.t = 0 from zr_ne (b := 0) c (by omega) (by decide))]
    exact key I (fun _ _ => rfl) (by rw [h.1, ew, if_neg c]) h.2.1
/-! measuring -/
def zb_t (x : Int32) (i : Nat) : Bool := x.toBitVec.getLsbD i
theorem zb_ext {x y : Int32} (h : ∀ i, i < 32 → zb_t x i = zb_t y i) : x = y := Int32.toBitVec_inj.mp (BitVec.eq_of_getLsbD_eq (fun i hi => h i hi))
theorem zb_or (x y : Int32) (i : Nat) : zb_t (x ||| y) i = (zb_t x i || zb_t y i) := by unfold zb_t; rw [Int32.toBitVec_or, BitVec.getLsbD_or]
theorem zb_and (x y : Int32) (i : Nat) : zb_t (x &&& y) i = (zb_t x i && zb_t y i) := by unfold zb_t; rw [Int32.toBitVec_and, BitVec.getLsbD_and]
theorem zb_1 : ∀ i, i < 32 → zb_t 1 i = decide (i = 0) := by decide +kernel
theorem zb_l : ∀ n, n < 32 → ((nI n &&& 31).toBitVec.smod 32).toNat = n := by decide +kernel
theorem zb_sh (n : Nat) (hn : n < 32) (x : Int32) {i : Nat} (hi : i < 32) : zb_t (x >>> (nI n &&& 31)) i = if n + i < 32 then zb_t x (n + i) else zb_t x 31 := by
  unfold zb_t
  rw [Int32.toBitVec_shiftRight]
  show (x.toBitVec.sshiftRight ((nI n &&& 31).toBitVec.smod 32).toNat).getLsbD i = _
  rw [zb_l n hn, BitVec.getLsbD_sshiftRight, BitVec.msb_eq_getLsbD_last]
  simp [hi]
theorem zb_one : ∀ x, x < 12 → ∀ j, j < 12 → zb_t ((1 : Int32) <<< (nI x &&& 31)) j = decide (j = x) := by decide +kernel
theorem zb_bit (v : Int32) {j : Nat} (hj : j < 12) : (v >>> (nI j &&& 31)) &&& 1 = 1 ↔ zb_t v j = true := by
  constructor
  · intro h
    have h1 : zb_t ((v >>> (nI j &&& 31)) &&& 1) 0 = true := by rw [h]; decide
    rw [zb_and, zb_sh j (by omega) v (by decide), if_pos (by omega), Bool.and_eq_true] at h1
    exact h1.1
  · intro h
    refine zb_ext (fun i hi => ?_)
    rw [zb_and, zb_1 i hi]
    by_cases c : i = 0
    · subst c
      rw [zb_sh j (by omega) v (by decide), if_pos (by omega)]
      show (zb_t v j && _) = _
      rw [h]; rfl
    · rw [decide_eq_false c, Bool.and_false]
theorem zb_add (v : Int32) {x j : Nat} (hx : x < 12) (hj : j < 12) : zb_t (v ||| ((1 : Int32) <<< (nI x &&& 31))) j = true ↔ (zb_t v j = true ∨ j = x) := by
  rw [zb_or, zb_one x hx j hj, Bool.or_eq_true, decide_eq_true_iff]
/-- what was seen: rows above y, and of row y what is left of x -/
def zx_sn (d : zq_D) (x y a b : Nat) : Prop := a < d.w ∧ (b < y ∨ (b = y ∧ a < x)) ∧ d.c a b ≠ 0
def zx_ms (o : Nat) (d : zq_D) (x y : Nat) (I : zI) : Prop := I o 3 = nI (zq_hf d y + zq_hr d y x) ∧ (∀ a, a < 12 → (zb_t (I o 4) a = true ↔ ∃ b, zx_sn d x y a b)) ∧ ∃ f l r, I o 5 = nI f ∧ I o 6 = nI l ∧ I o 7 = nI r ∧ f ≤ 12 ∧ l < 12 ∧ r < 12 ∧ (∀ a b, zx_sn d x y a b → f ≤ a ∧ a ≤ l ∧ b ≤ r) ∧ (f = 12 ∨ ∃ b, zx_sn d x y f b) ∧ (l = 0 ∨ ∃ b, zx_sn d x y l b) ∧ (r = 0 ∨ ∃ a, zx_sn d x y a r)
theorem zx_wt0 {c : Nat} : zq_wt c = 0 ↔ c = 0 := by
  unfold zq_wt
  by_cases h : c = 0
  · rw [if_pos h]; exact ⟨fun _ => h, fun _ => rfl⟩
  · rw [if_neg h]
    split <;> exact ⟨fun q => by omega, fun q => absurd q h⟩
theorem zx_wtE : ∀ c, c < 7 → (zw_sl 5).getD c 0 = nI (zq_wt c) := by decide
/-- one cell -/
theorem zx_msS {sw : Bool} {o : Nat} {d : zq_D} {x y : Nat} {I : zI} (hr : zq_dr sw o) (hw : d.w ≤ 12) (ht : d.t ≤ 12) (h6 : ∀ x y, d.c x y ≤ 6) (h : zq_DC I o d) (hx : x < d.w) (hy : y < d.t) (hm : zx_ms o d x y I) : ∃ I2, s_X0_measureUp_38 o (nI y) (zE_R sw) (nI x, I) = some (.inl (nI (x + 1), I2)) ∧ (∀ a, a ≠ o → I2 a = I a) ∧ I2 o 1 = I o 1 ∧ I2 o 2 = I o 2 ∧ zx_ms o d (x + 1) y I2 := by
  have hc := zx_cell hr hw ht h hx hy
  have c6 := h6 x y
  obtain ⟨m1, m2, f, l, r, m3, m4, m5, m6, m7, m8, m9, m10, m11, m12⟩ := hm
  have hd : s_X0_measureUp_38 o (nI y) (zE_R sw) (nI x, I) = if nI (d.c x y) = 0 then some (.inl (nI (x + 1), I)) else zw_g (zw_in (nI (d.c x y)) (zw_sl 5).length) (zw_let (zw_u I o 3 ((I o 3) + ((zw_sl 5).getD (Int32.toNatClampNeg (nI (d.c x y))) 0)) : zI) fun I15 => (zw_let (zw_u I15 o 4 ((I15 o 4) ||| (1 <<< (nI x &&& 31))) : zI) fun I16 => (zw_let ((if nI x < (I16 o 5) then nI x else (I16 o 5)) : Int32) fun x17 => (zw_let (zw_u I16 o 5 x17 : zI) fun I18 => (zw_let ((if (I18 o 6) < nI x then nI x else (I18 o 6)) : Int32) fun x19 => (zw_let (zw_u I18 o 6 x19 : zI) fun I20 => (zw_let (zw_u I20 o 7 (nI y) : zI) fun I21 => some (.inl (nI (x + 1), I21))))))))) := by
    unfold s_X0_measureUp_38 j_X0_measureUp_112_38
    rw [hr.1, zw_g_t]
    dsimp only
    rw [if_neg (show ¬ I o 1 ≤ nI x by rw [h.1]; exact nI_ge hx (by omega)), hc, Option.bind_some]
    simp only [zw_let_e, nI_1]
  rw [hd]
  have hrx : zq_hr d y (x + 1) = zq_hr d y x + zq_wt (d.c x y) := rfl
  by_cases c0 : d.c x y = 0
  · rw [if_pos (show nI (d.c x y) = 0 by rw [c0]; rfl)]
    have same : ∀ a b, zx_sn d (x + 1) y a b ↔ zx_sn d x y a b := by
      intro a b
      unfold zx_sn
      constructor
      · rintro ⟨q1, q2, q3⟩
        refine ⟨q1, ?_, q3⟩
        by_cases e : b = y ∧ a = x
        · exact absurd (by rw [e.1, e.2]; exact c0) q3
        · omega
      · rintro ⟨q1, q2, q3⟩
        exact ⟨q1, by omega, q3⟩
    refine ⟨I, rfl, fun _ _ => rfl, rfl, rfl, ?_, fun a ha => ?_, f, l, r, m3, m4, m5, m6, m7, m8, fun a b q => m9 a b ((same a b).mp q), ?_, ?_, ?_⟩
    · rw [m1, hrx, zx_wt0.mpr c0, Nat.add_zero]
    · rw [m2 a ha]
      exact ⟨fun ⟨b, q⟩ => ⟨b, (same a b).mpr q⟩, fun ⟨b, q⟩ => ⟨b, (same a b).mp q⟩⟩
    · rcases m10 with q | ⟨b, q⟩
      · exact Or.inl q
      · exact Or.inr ⟨b, (same _ _).mpr q⟩
    · rcases m11 with q | ⟨b, q⟩
      · exact Or.inl q
      · exact Or.inr ⟨b, (same _ _).mpr q⟩
    · rcases m12 with q | ⟨b, q⟩
      · exact Or.inl q
      · exact Or.inr ⟨b, (same _ _).mpr q⟩
  · rw [if_neg (show ¬ nI (d.c x y) = 0 from zr_ne (b := 0) c0 (by omega) (by decide)), show (zw_sl 5).length = 7 from rfl, zE_in (show d.c x y < 7 by omega) (by decide), zw_g_t, zE_cl (show d.c x y < 2 ^ 31 by omega), zx_wtE _ (by omega), m1, nI_add]
    simp only [zw_let_e]
    obtain ⟨I1, e1⟩ : ∃ I1, I1 = zw_u I o 3 (nI (zq_hf d y + zq_hr d y x + zq_wt (d.c x y))) := ⟨_, rfl⟩
    rw [← e1]
    obtain ⟨I2, e2⟩ : ∃ I2, I2 = zw_u I1 o 4 (I1 o 4 ||| (1 <<< (nI x &&& 31))) := ⟨_, rfl⟩
    rw [← e2]
    have a5 : I2 o 5 = nI f := by rw [e2, zE_u2 _ _ (by omega), e1, zE_u2 _ _ (by omega)]; exact m3
    have v5 : (if nI x < I2 o 5 then nI x else I2 o 5) = nI (if x < f then x else f) := by
      rw [a5]
      by_cases q : x < f
      · rw [if_pos (nI_lt q (by omega)), if_pos q]
      · rw [if_neg (nI_nlt (by omega) (by omega)), if_neg q]
    rw [v5]
    obtain ⟨f2, ef⟩ : ∃ f2, f2 = (if x < f then x else f) := ⟨_, rfl⟩
    rw [← ef]
    obtain ⟨I3, e3⟩ : ∃ I3, I3 = zw_u I2 o 5 (nI f2) := ⟨_, rfl⟩
    rw [← e3]
    have a6 : I3 o 6 = nI l := by rw [e3, zE_u2 _ _ (by omega), e2, zE_u2 _ _ (by omega), e1, zE_u2 _ _ (by omega)]; exact m4
    have v6 : (if I3 o 6 < nI x then nI x else I3 o 6) = nI (if l < x then x else l) := by
      rw [a6]
      by_cases q : l < x
      · rw [if_pos (nI_lt q (by omega)), if_pos q]
      · rw [if_neg (nI_nlt (by omega) (by omega)), if_neg q]
    rw [v6]
    obtain ⟨l2, el⟩ : ∃ l2, l2 = (if l < x then x else l) := ⟨_, rfl⟩
    rw [← el]
    have own : zx_sn d (x + 1) y x y := ⟨hx, Or.inr ⟨rfl, by omega⟩, c0⟩
    have up : ∀ a b, zx_sn d x y a b → zx_sn d (x + 1) y a b := fun a b q => ⟨q.1, by have := q.2.1; omega, q.2.2⟩
    have dn : ∀ a b, zx_sn d (x + 1) y a b → zx_sn d x y a b ∨ (a = x ∧ b = y) := by
      intro a b q
      by_cases e : a = x ∧ b = y
      · exact Or.inr e
      · exact Or.inl ⟨q.1, by have := q.2.1; omega, q.2.2⟩
    have f2b : f2 ≤ f ∧ f2 ≤ x ∧ (f2 = f ∨ f2 = x) := by rw [ef]; split <;> omega
    have l2b : l ≤ l2 ∧ x ≤ l2 ∧ (l2 = l ∨ l2 = x) := by rw [el]; split <;> omega
    refine ⟨_, rfl, fun a ha => by rw [zw_u_off _ _ _ ha, zw_u_off _ _ _ ha, e3, zw_u_off _ _ _ ha, e2, zw_u_off _ _ _ ha, e1, zw_u_off _ _ _ ha], ?_, ?_, ?_, fun a ha => ?_, f2, l2, y, ?_, ?_, zE_u1 _ _ _ _, by omega, by omega, by omega, fun a b q => ?_, Or.inr ?_, Or.inr ?_, Or.inr ⟨x, own⟩⟩
    · rw [zE_u2 _ _ (by omega), zE_u2 _ _ (by omega), e3, zE_u2 _ _ (by omega), e2, zE_u2 _ _ (by omega), e1, zE_u2 _ _ (by omega)]
    · rw [zE_u2 _ _ (by omega), zE_u2 _ _ (by omega), e3, zE_u2 _ _ (by omega), e2, zE_u2 _ _ (by omega), e1, zE_u2 _ _ (by omega)]
    · rw [zE_u2 _ _ (by omega), zE_u2 _ _ (by omega), e3, zE_u2 _ _ (by omega), e2, zE_u2 _ _ (by omega), e1, zE_u1, hrx, Nat.add_assoc]
    · have k4 : I1 o 4 = I o 4 := by rw [e1, zE_u2 _ _ (by omega)]
      rw [zE_u2 _ _ (by omega), zE_u2 _ _ (by omega), e3, zE_u2 _ _ (by omega), e2, zE_u1, k4, zb_add _ (by omega) ha, m2 a ha]
      constructor
      · rintro (⟨b, q⟩ | q)
        · exact ⟨b, up a b q⟩
        · rw [q]; exact ⟨y, own⟩
      · rintro ⟨b, q⟩
        rcases dn a b q with q | q
        · exact Or.inl ⟨b, q⟩
        · exact Or.inr q.1
    · rw [zE_u2 _ _ (by omega), zE_u2 _ _ (by omega), e3, zE_u1]
    · rw [zE_u2 _ _ (by omega), zE_u1]
    · rcases dn a b q with q | q
      · have := m9 a b q
        have q2 := q.2.1
        omega
      · omega
    · rcases f2b.2.2 with e | e
      · rcases m10 with q | ⟨b, q⟩
        · omega
        · rw [e]; exact ⟨b, up _ _ q⟩
      · rw [e]; exact ⟨y, own⟩
    · by_cases e : l2 = x
      · rw [e]; exact ⟨y, own⟩
      · rcases m11 with q | ⟨b, q⟩
        · omega
        · rw [show l2 = l by omega]; exact ⟨b, up _ _ q⟩
