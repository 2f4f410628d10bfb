/-! ===== the model cuts a text into tokens ===== -/
def zt_TM (I : zI) (T : Nat → Nat) (n : Nat) : Prop := n ≤ 2000 ∧ I 148 4 = nI n ∧ ∀ j, j < n → I 150 j &&& 255 = nI (T j) ∧ T j < 256
theorem zt_TM_tr {I2 I : zI} {T : Nat → Nat} {n : Nat} (h : zt_TM I T n) (h2 : I2 148 4 = I 148 4) (h3 : I2 150 = I 150) : zt_TM I2 T n := by
  unfold zt_TM
  rw [h2, h3]
  exact h
theorem zt_byM {sw : Bool} {I : zI} {T : Nat → Nat} {n : Nat} (h : zt_TM I T n) {a : Nat} (ha : a < 2 ^ 31) : f_X11_byteAt 148 (nI a) I (zE_R sw) = some (if a < n then nI (T a) else 0) := by
  obtain ⟨h1, h2, h3⟩ := h
  unfold f_X11_byteAt
  simp only [zE_gM, zE_rM sw, zE_sM, zw_g_t, h2]
  by_cases c : a < n
  · rw [if_neg (nI_ge c (by omega)), zE_in (show a < 2000 by omega) (by decide), zw_g_t, zE_cl ha, (h3 a c).1, if_pos c]
  · rw [if_pos (nI_le (show n ≤ a by omega) ha), if_neg c]
theorem zt_r_stop (P : Nat → Bool) (T : Nat → Nat) (n : Nat) (a : Nat) : ¬ (zt_r P T n a < n ∧ P (T (zt_r P T n a)) = true) := by
  have key : ∀ f a, n - a ≤ f → ¬ (zt_r P T n a < n ∧ P (T (zt_r P T n a)) = true) := by
    intro f
    induction f with
    | zero =>
      intro a h1 h2
      have := zt_r_ge P T n a
      omega
    | succ f ih =>
      intro a h1
      by_cases h : a < n ∧ P (T a) = true
      · rw [zt_r_go h.1 h.2]
        exact ih (a + 1) (by omega)
      · rw [zt_r_end h]
        exact h
  exact key (n - a) a (Nat.le_refl _)
/-- one token more -/
def zt_oM (m : Nat) (I2 I : zI) (J2 J : zJ) (k w v : Int32) (nm : Int64) : Prop := (∀ x, x ≠ 148 → x ≠ 151 → x ≠ 152 → x ≠ 153 → I2 x = I x) ∧ (∀ y, y ≠ 10 → I2 148 y = I 148 y) ∧ I2 148 10 = nI (m + 1) ∧ (∀ y, y ≠ m → I2 151 y = I 151 y ∧ I2 152 y = I 152 y ∧ I2 153 y = I 153 y) ∧ I2 151 m = k ∧ I2 152 m = w ∧ I2 153 m = v ∧ (∀ x, x ≠ 154 → J2 x = J x) ∧ (∀ y, y ≠ m → J2 154 y = J 154 y) ∧ J2 154 m = nm
theorem zt_token {sw : Bool} {I : zI} {J : zJ} {m : Nat} (h : I 148 10 = nI m) (hm : m < 503) (k w v : Int32) (nm : Int64) : ∃ I2 J2, f_X11_token 148 k w v nm I (zE_R sw) J = some (I2, J2) ∧ zt_oM m I2 I J2 J k w v nm := by
  have u1 : ∀ (f : zI) (y : Nat) (x : Int32), zw_u f 151 y x 148 = f 148 := fun f y x => zw_u_off f y x (by decide)
  have u2 : ∀ (f : zI) (y : Nat) (x : Int32), zw_u f 152 y x 148 = f 148 := fun f y x => zw_u_off f y x (by decide)
  have u3 : ∀ (f : zI) (y : Nat) (x : Int32), zw_u f 153 y x 148 = f 148 := fun f y x => zw_u_off f y x (by decide)
  unfold f_X11_token
  simp only [zE_gM, zE_rM sw, zE_sM, zw_g_t, zw_let_e, h, u1, u2, u3, zE_in hm (by decide), zE_cl (show m < 2 ^ 31 by omega), nI_1]
  refine ⟨_, _, rfl, fun x a1 a2 a3 a4 => ?_, fun y hy => ?_, zE_u1 _ _ _ _, fun y hy => ⟨?_, ?_, ?_⟩, ?_, ?_, ?_, fun x hx => zw_u_off _ _ _ hx, fun y hy => zE_u2 _ _ (by omega), zE_u1 _ _ _ _⟩
  · rw [zw_u_off _ _ _ a1, zw_u_off _ _ _ a4, zw_u_off _ _ _ a3, zw_u_off _ _ _ a2]
  · rw [zE_u2 _ _ (by omega), u3, u2, u1]
  · rw [zw_u_off _ _ _ (by decide), zw_u_off _ _ _ (by decide), zw_u_off _ _ _ (by decide), zE_u2 _ _ (by omega)]
  · rw [zw_u_off _ _ _ (by decide), zw_u_off _ _ _ (by decide), zE_u2 _ _ (by omega), zw_u_off _ _ _ (by decide)]
  · rw [zw_u_off _ _ _ (by decide), zE_u2 _ _ (by omega), zw_u_off _ _ _ (by decide), zw_u_off _ _ _ (by decide)]
  · rw [zw_u_off _ _ _ (by decide), zw_u_off _ _ _ (by decide), zw_u_off _ _ _ (by decide), zE_u1]
  · rw [zw_u_off _ _ _ (by decide), zw_u_off _ _ _ (by decide), zE_u1]
  · rw [zw_u_off _ _ _ (by decide), zE_u1]
/-- the model's number for a kind of the class -/
def zt_mk (k : Nat) : Nat := [0, 3, 1, 2, 17, 4, 5, 16, 8, 9, 10, 15, 6, 7, 13, 14, 11, 12, 20, 21, 22, 23, 24, 25, 26, 27, 28, 29, 30, 31, 32, 34, 35, 33, 36, 37].getD k 3
/-- the class's word for a key of the model -/
def zt_pm (k : Nat) : Nat := if k = 13 then 15 else if k = 14 then 13 else if k = 15 then 14 else k
def zt_mf (w : List Nat) (s0 : Nat) : Nat → Nat
  | 0 => s0
  | k + 1 => if w = zt_kw (zt_pm k) then 20 + k else zt_mf w s0 k
theorem zt_pm18 : ∀ k, k < 18 → zt_pm k < 18 := by decide
theorem zt_pmI : ∀ s, s < 18 → ∃ k, k < 18 ∧ zt_pm k = s := by decide
theorem zt_mfk : ∀ s, s < 18 → zt_mf (zt_kw s) 1 18 = zt_mk (zt_wk (zt_kw s)) := by decide +kernel
theorem zt_mf_none {w : List Nat} {s0 : Nat} : ∀ {k : Nat}, (∀ j, j < k → w ≠ zt_kw (zt_pm j)) → zt_mf w s0 k = s0
  | 0, _ => rfl
  | k + 1, h => by
    unfold zt_mf
    rw [if_neg (h k (by omega))]
    exact zt_mf_none (fun j hj => h j (by omega))
theorem zt_mfE (w : List Nat) : zt_mf w 1 18 = zt_mk (zt_wk w) := by
  by_cases h : ∃ s, s < 18 ∧ w = zt_kw s
  · obtain ⟨s, hs, rfl⟩ := h
    exact zt_mfk s hs
  · have h1 : ∀ j, j < 18 → w ≠ zt_kw j := fun j hj e => h ⟨j, hj, e⟩
    rw [zt_mf_none (fun j hj => h1 _ (zt_pm18 j hj))]
    have : zt_wk w = 2 := zt_kf_none (fun j _ hj => h1 j (by omega))
    rw [this]
    rfl
def zt_KY (J : zJ) : Prop := ∀ k, k < 18 → J 155 k = lN (zt_en 27 (zt_kw (zt_pm k)))
theorem zt_kwd : ∀ s, s < 18 → ∀ d, d ∈ zt_kw s → 1 ≤ d ∧ d ≤ 26 := by decide +kernel
theorem zt_kwl : ∀ s, s < 18 → (zt_kw s).length ≤ 7 := by decide +kernel
theorem zt_en63 {l : List Nat} (h : zt_dg l) (hl : l.length ≤ 8) : zt_en 27 l < 2 ^ 63 := by
  have h1 := zt_en_lt (B := 27) (by decide) l h
  have h2 : 27 ^ l.length ≤ 27 ^ 8 := Nat.pow_le_pow_right (n := 27) (by decide) hl
  have h3 : 27 ^ 8 < 2 ^ 63 := by decide
  omega
/-- the keys -/
theorem zt_keysM {sw : Bool} {I : zI} {J : zJ} {w : List Nat} {v1 v3 : Int32} (hJ : zt_KY J) (hw : zt_dg w) (hl : w.length ≤ 8) (s0 : Nat) : zw_it (s_X11_cut_146 148 v1 v3 (lN (zt_en 27 w)) I (zE_R sw) J) 1000000 (nI s0, 0) = some (nI (zt_mf w s0 18)) := by
  refine zE_forE (step := s_X11_cut_146 148 v1 v3 (lN (zt_en 27 w)) I (zE_R sw) J) (fun k => (nI (zt_mf w s0 k), nI k)) (nI (zt_mf w s0 18)) 18 (fun k hk => ?_) ?_ (by decide)
  · have hp := zt_pm18 k hk
    have d2 : zt_dg (zt_kw (zt_pm k)) := zt_kwd _ hp
    have l2 := zt_kwl _ hp
    have e1 : 20 + nI k = nI (20 + k) := nI_add 20 k
    have em : zt_mf w s0 (k + 1) = if w = zt_kw (zt_pm k) then 20 + k else zt_mf w s0 k := rfl
    unfold s_X11_cut_146 j_X11_cut_173_146
    simp only [if_neg (show ¬ (18 : Int32) ≤ nI k from nI_ge (b := 18) hk (by decide)), zE_gM, zE_rM sw, zE_sM, zw_g_t, zE_in hk (by decide), zE_cl (show k < 2 ^ 31 by omega), hJ k hk, zw_let_e, nI_1, e1]
    have ce : lg_cmp (lN (zt_en 27 (zt_kw (zt_pm k)))) (lN (zt_en 27 w)) = 0 ↔ w = zt_kw (zt_pm k) := by
      rw [lg_cmp_eq, pk_lEQ (zt_en63 d2 (by omega)) (zt_en63 hw hl)]
      exact ⟨fun q => (zt_en_in (B := 27) (by decide) _ _ d2 hw q).symm, fun q => by rw [q]⟩
    rw [em]
    by_cases c : w = zt_kw (zt_pm k)
    · rw [if_neg (fun q => q (ce.mpr c)), if_pos c]
    · rw [if_pos (fun q => c (ce.mp q)), if_neg c]
  · unfold s_X11_cut_146
    dsimp only
    rw [if_pos (show (18 : Int32) ≤ nI 18 by decide)]
theorem zt_min8 (k : Nat) : min 8 (k + 1) = if k < 8 then min 8 k + 1 else min 8 k := by
  by_cases c : k < 8
  · rw [if_pos c]; omega
  · rw [if_neg c]; omega
/-- letters -/
theorem zt_lettersM {sw : Bool} {I : zI} {J : zJ} {T : Nat → Nat} {n a : Nat} (h : zt_TM I T n) (ha : a < n) (hL : zt_L (T a) = true) : zw_it (s_X11_cut_85 148 (nI a) I (zE_R sw) J) 1000000 (0, 0) = some (nI (zt_r zt_L T n (a + 1) - a), lN (zt_en 27 (zt_rl T a (min 8 (zt_r zt_L T n (a + 1) - a))))) := by
  have hn := h.1
  have g1 := zt_r_ge zt_L T n (a + 1)
  have g2 := zt_r_le (P := zt_L) (T := T) (n := n) (a := a + 1) (by omega)
  have g3 := zt_r_stop zt_L T n (a + 1)
  have g4 := zt_dgw (n := n) hL
  obtain ⟨e, he⟩ : ∃ e, e = zt_r zt_L T n (a + 1) := ⟨_, rfl⟩
  rw [← he] at g1 g2 g3 g4 ⊢
  refine zE_forE (step := s_X11_cut_85 148 (nI a) I (zE_R sw) J) (fun k => (nI k, lN (zt_en 27 (zt_rl T a (min 8 k))))) _ (e - a) (fun k hk => ?_) ?_ (by omega)
  · have hb := (h.2.2 (a + k) (by omega)).2
    have hl := g4 (a + k) (by omega) (by omega)
    have hl2 := hl
    unfold zt_L at hl2
    have hl2 := of_decide_eq_true hl2
    have e3 : nI (T (a + k)) - 97 + 1 = nI (T (a + k) - 96) := by
      rw [show (97 : Int32) = nI 97 from rfl, pk_sub hl2.1, nI_1]
      congr 1
      omega
    unfold s_X11_cut_85 j_X11_cut_118_85
    simp only [zE_gM, zw_g_t, nI_add, zt_byM (sw := sw) h (show a + k < 2 ^ 31 by omega), if_pos (show a + k < n by omega), Option.bind_some, (zt_b1 (T (a + k)) hb).2.1, hl, zw_let_e, nI_1]
    rw [if_neg (show ¬ zr_b true = 0 by decide), zt_min8]
    by_cases c : k < 8
    · rw [if_neg (show ¬ (8 : Int32) ≤ nI k from nI_ge (b := 8) c (by decide)), if_pos c, show min 8 k = k by omega]
      have em : f_X11_more (lN (zt_en 27 (zt_rl T a k))) (nI (T (a + k))) = some (lN (zt_en 27 (zt_rl T a (k + 1)))) := by
        unfold f_X11_more
        rw [if_pos (show ¬ nI (T (a + k)) = (0 : Int32) from zr_ne (b := 0) (by omega) (by omega) (by decide)), e3, nI_l (by omega), show (27 : Int64) = lN 27 from rfl, lN_mul, lN_add, Nat.mul_comm]
        rfl
      rw [em, Option.bind_some]
    · rw [if_pos (show (8 : Int32) ≤ nI k from nI_le (a := 8) (by omega) (by omega)), if_neg c]
  · unfold s_X11_cut_85
    simp only [zE_gM, zw_g_t, nI_add, zt_byM (sw := sw) h (show a + (e - a) < 2 ^ 31 by omega), Option.bind_some]
    rw [show a + (e - a) = e by omega]
    by_cases c : e < n
    · rw [if_pos c, (zt_b1 (T e) (h.2.2 e c).2).2.1, Option.bind_some]
      cases hc : zt_L (T e)
      · rfl
      · exact absurd ⟨c, hc⟩ g3
    · rw [if_neg c, zt_b3.2.2.2.2.1, Option.bind_some, if_pos rfl]
theorem zt_min4 (k : Nat) : min 4 (k + 1) = if k < 4 then min 4 k + 1 else min 4 k := by
  by_cases c : k < 4
  · rw [if_pos c]; omega
  · rw [if_neg c]; omega
/-- digits -/
theorem zt_digitsM {sw : Bool} {I : zI} {J : zJ} {T : Nat → Nat} {n a : Nat} (h : zt_TM I T n) (ha : a < n) (hD : zt_D (T a) = true) : zw_it (s_X11_cut_269 148 (nI a) I (zE_R sw) J) 1000000 (0, 0) = some (nI (zt_r zt_D T n (a + 1) - a), nI (zt_nm T a (min 4 (zt_r zt_D T n (a + 1) - a)))) := by
  have hn := h.1
  have g1 := zt_r_ge zt_D T n (a + 1)
  have g2 := zt_r_le (P := zt_D) (T := T) (n := n) (a := a + 1) (by omega)
  have g3 := zt_r_stop zt_D T n (a + 1)
  have g4 : ∀ j, a ≤ j → j < zt_r zt_D T n (a + 1) → zt_D (T j) = true := fun j h1 h2 => by
    by_cases e : j = a
    · rw [e]; exact hD
    · exact zt_r_in (a := a + 1) (by omega) h2
  obtain ⟨e, he⟩ : ∃ e, e = zt_r zt_D T n (a + 1) := ⟨_, rfl⟩
  rw [← he] at g1 g2 g3 g4 ⊢
  refine zE_forE (step := s_X11_cut_269 148 (nI a) I (zE_R sw) J) (fun k => (nI k, nI (zt_nm T a (min 4 k)))) _ (e - a) (fun k hk => ?_) ?_ (by omega)
  · have hb := (h.2.2 (a + k) (by omega)).2
    have hl := g4 (a + k) (by omega) (by omega)
    have hl2 := hl
    unfold zt_D at hl2
    have hl2 := of_decide_eq_true hl2
    have e3 : 10 * nI (zt_nm T a k) + nI (T (a + k)) - 48 = nI (zt_nm T a k * 10 + (T (a + k) - 48)) := by
      rw [show (10 : Int32) = nI 10 from rfl, show (48 : Int32) = nI 48 from rfl, pk_mul, nI_add, pk_sub (by omega)]
      congr 1
      omega
    unfold s_X11_cut_269 j_X11_cut_305_269
    simp only [zE_gM, zw_g_t, nI_add, zt_byM (sw := sw) h (show a + k < 2 ^ 31 by omega), if_pos (show a + k < n by omega), Option.bind_some, (zt_b1 (T (a + k)) hb).2.2.2.1, hl, zw_let_e, nI_1]
    rw [if_neg (show ¬ zr_b true = 0 by decide), zt_min4]
    by_cases c : k < 4
    · rw [if_neg (show ¬ (4 : Int32) ≤ nI k from nI_ge (b := 4) c (by decide)), if_pos c, show min 4 k = k by omega, e3]
      rfl
    · rw [if_pos (show (4 : Int32) ≤ nI k from nI_le (a := 4) (by omega) (by omega)), if_neg c]
  · unfold s_X11_cut_269
    simp only [zE_gM, zw_g_t, nI_add, zt_byM (sw := sw) h (show a + (e - a) < 2 ^ 31 by omega), Option.bind_some]
    rw [show a + (e - a) = e by omega]
    by_cases c : e < n
    · rw [if_pos c, (zt_b1 (T e) (h.2.2 e c).2).2.2.2.1, Option.bind_some]
      cases hc : zt_D (T e)
      · rfl
      · exact absurd ⟨c, hc⟩ g3
    · rw [if_neg c, zt_b3.2.2.2.2.2.1, Option.bind_some, if_pos rfl]
/-- cells -/
theorem zt_cellsM {sw : Bool} {I : zI} {J : zJ} {T : Nat → Nat} {n a : Nat} (h : zt_TM I T n) (ha : a < n) : zw_it (s_X11_cut_204 148 (nI a) I (zE_R sw) J) 1000000 0 = some (nI (zt_r zt_C T n (a + 1) - a - 1)) := by
  have hn := h.1
  have g1 := zt_r_ge zt_C T n (a + 1)
  have g2 := zt_r_le (P := zt_C) (T := T) (n := n) (a := a + 1) (by omega)
  have g3 := zt_r_stop zt_C T n (a + 1)
  have g4 : ∀ j, a + 1 ≤ j → j < zt_r zt_C T n (a + 1) → zt_C (T j) = true := fun j h1 h2 => zt_r_in (a := a + 1) h1 h2
  obtain ⟨e, he⟩ : ∃ e, e = zt_r zt_C T n (a + 1) := ⟨_, rfl⟩
  rw [← he] at g1 g2 g3 g4 ⊢
  refine zE_forE (step := s_X11_cut_204 148 (nI a) I (zE_R sw) J) (fun k => nI k) _ (e - a - 1) (fun k hk => ?_) ?_ (by omega)
  · have hb := (h.2.2 (a + 1 + k) (by omega)).2
    have hl := g4 (a + 1 + k) (by omega) (by omega)
    have co := (zt_co1 (T (a + 1 + k)) hb).2.1
    unfold s_X11_cut_204
    simp only [zE_gM, zw_g_t, nI_1, nI_add, zt_byM (sw := sw) h (show a + 1 + k < 2 ^ 31 by omega), if_pos (show a + 1 + k < n by omega), Option.bind_some, (zt_b1 (T (a + 1 + k)) hb).2.2.2.2.2, zw_let_e]
    rw [if_neg (fun r => by rw [co] at r; rw [r] at hl; cases hl)]
  · unfold s_X11_cut_204
    simp only [zE_gM, zw_g_t, nI_1, nI_add, zt_byM (sw := sw) h (show a + 1 + (e - a - 1) < 2 ^ 31 by omega), Option.bind_some]
    rw [show a + 1 + (e - a - 1) = e by omega]
    by_cases c : e < n
    · have hb := (h.2.2 e c).2
      rw [if_pos c, (zt_b1 (T e) hb).2.2.2.2.2, Option.bind_some]
      cases hc : zt_C (T e)
      · rw [if_pos ((zt_co1 (T e) hb).2.1.mpr hc)]
      · exact absurd ⟨c, hc⟩ g3
    · rw [if_neg c, zt_b3.2.2.2.2.2.2, Option.bind_some, if_pos (show (-1 : Int32) < 0 by decide)]
