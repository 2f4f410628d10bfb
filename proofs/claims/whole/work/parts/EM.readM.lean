/-! ===== read, in the model ===== -/
theorem zX_b8 {v : Int32} {c : Nat} (h : v &&& 255 = nI c) : Int8.toInt32 (Int32.toInt8 v) = zx_by c := by
  unfold zx_by
  rw [← h, Int32.toInt8_and, show Int32.toInt8 255 = -1 by decide, Int8.and_neg_one]
theorem zX_by255 : ∀ c, c < 256 → zx_by c &&& 255 = nI c := by decide +kernel
theorem zX_copy {sw : Bool} {J : zJ} {n : Nat} (hn : n ≤ 2000) : ∀ (d i N : Nat) (I : zI), i + d = n → d + 1 ≤ N → I 148 4 = nI n → ∃ I2, zw_it (s_X11_read_10 148 (zE_R sw) J) N (nI i, I) = some I2 ∧ (∀ a, a ≠ 150 → I2 a = I a) ∧ (∀ j, i ≤ j → j < n → I2 150 j = Int8.toInt32 (Int32.toInt8 (I 149 j))) ∧ ∀ j, j < i → I2 150 j = I 150 j
  | d, i, 0, I, _, hN, _ => absurd hN (by omega)
  | 0, i, N + 1, I, hi, hN, h4 => by
    refine ⟨I, zE_it0 N ?_, fun _ _ => rfl, fun j h1 h2 => by omega, fun _ _ => rfl⟩
    unfold s_X11_read_10
    rw [zp_g148.1, zw_g_t]
    dsimp only
    rw [if_pos (show I 148 4 ≤ nI i by rw [h4]; exact nI_le (by omega) (by omega))]
  | d + 1, i, N + 1, I, hi, hN, h4 => by
    have st : s_X11_read_10 148 (zE_R sw) J (nI i, I) = some (.inl (nI (i + 1), zw_u I 150 i (Int8.toInt32 (Int32.toInt8 (I 149 i))))) := by
      unfold s_X11_read_10
      simp only [zE_gM, zE_rM sw, zE_sM, zw_g_t, zw_let_e, zE_in (show i < 2000 by omega) (by decide), zE_cl (show i < 2 ^ 31 by omega), nI_1]
      rw [if_neg (show ¬ I 148 4 ≤ nI i by rw [h4]; exact nI_ge (by omega) (by omega))]
    obtain ⟨I2, r1, r2, r3, r4⟩ := zX_copy (sw := sw) (J := J) hn d (i + 1) N (zw_u I 150 i (Int8.toInt32 (Int32.toInt8 (I 149 i)))) (by omega) (by omega) (by rw [zw_u_off _ _ _ (by decide)]; exact h4)
    refine ⟨I2, (zE_it1 N st).trans r1, fun a ha => by rw [r2 a ha, zw_u_off _ _ _ ha], fun j h1 h2 => ?_, fun j hj => by rw [r4 j (by omega), zE_u2 _ _ (by omega)]⟩
    by_cases e : j = i
    · rw [e, r4 i (by omega), zE_u1]
    · rw [r3 j (by omega) h2, zw_u_off _ _ _ (by decide)]
theorem zX_sd (lv : Bool) : (1 : Int32) - nI (zq_lv lv) = nI (zq_lv (!lv)) := by cases lv <;> decide
/-- the model's fields that a text changes in any case -/
def zX_fd (y : Nat) : Prop := y = 2 ∨ y = 4 ∨ y = 10 ∨ zx_fd y ∨ y = 17 ∨ y = 19
/-- what a text leaves alone in the model -/
def zX_oM (lv : Bool) (I2 I : zI) : Prop := (∀ a, a ≠ 148 → ¬ (150 ≤ a ∧ a ≤ 153) → ¬ (156 ≤ a ∧ a ≤ 181) → I2 a = I a) ∧ ∀ a i, 156 ≤ a → a ≤ 180 → zq_lv lv * zx_W a ≤ i → i < (zq_lv lv + 1) * zx_W a → I2 a i = I a i
theorem zX_readM {sw lv : Bool} {I : zI} {J : zJ} {T : Nat → Nat} {n : Nat} (hn : n ≤ 2000) (h2 : I 148 2 = nI n) (hT : ∀ j, j < n → I 149 j &&& 255 = nI (T j) ∧ T j < 256) (h18 : I 148 18 = nI (zq_lv lv)) (h16 : ∃ p, p ≤ 2000 ∧ I 148 16 = nI p) (hJ : zt_KY J) : ∃ I2 J2, f_X11_read 148 I (zE_R sw) J = some ((zx_ans T n (zx_text T n 501 0 zx_s0)).1, I2, J2) ∧ I2 148 17 = (zx_ans T n (zx_text T n 501 0 zx_s0)).2 ∧ I2 148 2 = 0 ∧ (∃ p, p ≤ 2000 ∧ I2 148 16 = nI p) ∧ zt_KY J2 ∧ zX_oM lv I2 I ∧ (((∀ x, zx_text T n 501 0 zx_s0 = .inl x → x.2.2.2.2.1 ≠ 0) ∧ ∀ y, ¬ zX_fd y → I2 148 y = I 148 y) ∨ (∃ x m l, zx_text T n 501 0 zx_s0 = .inl x ∧ x.2.2.2.2.1 = 0 ∧ (∀ y, ¬ zX_fd y → y ≠ 18 → y ≠ 61 → y ≠ 65 → y ≠ 70 → y ≠ 75 → I2 148 y = I 148 y) ∧ I2 148 18 = nI (zq_lv (!lv)) ∧ I2 148 61 = 0 ∧ I2 148 65 = 0 ∧ I2 148 70 = 0 ∧ I2 148 75 = 0 ∧ m ≤ 520 * (zq_lv (!lv) + 1) ∧ l ≤ 200 * (zq_lv (!lv) + 1) ∧ zx_KM (!lv) I2 m l x.2.1 x.2.2.1 ∧ I2 158 (zq_lv (!lv)) = nI x.2.1.ns ∧ I2 162 (zq_lv (!lv)) = nI x.2.1.nc ∧ I2 163 (zq_lv (!lv)) = nI x.2.1.nr ∧ I2 167 (zq_lv (!lv)) = nI x.2.2.1.1 ∧ I2 168 (zq_lv (!lv)) = nI x.2.2.1.2.1)) := by
  have g8 := zp_g148.1
  obtain ⟨b, eb⟩ : ∃ b, b = !lv := ⟨_, rfl⟩
  have elv : lv = !b := by rw [eb, Bool.not_not]
  have hlv := zq_lv1 b
  -- the text
  obtain ⟨A, eA⟩ : ∃ A, A = zw_u I 148 4 (nI n) := ⟨_, rfl⟩
  obtain ⟨B, c1, c2, c3, -⟩ := zX_copy (sw := sw) (J := J) hn n 0 1000000 A (by omega) (by omega) (by rw [eA, zE_u1])
  have c1 : zw_it (s_X11_read_10 148 (zE_R sw) J) 1000000 (0, A) = some B := c1
  have B150 : ∀ j, j < n → B 150 j = zx_by (T j) := fun j hj => by
    rw [c3 j (Nat.zero_le _) hj, eA, zw_u_off _ _ _ (by decide)]
    exact zX_b8 (hT j hj).1
  have fB : ∀ a, a ≠ 148 → a ≠ 150 → B a = I a := fun a a1 a2 => by rw [c2 a a2, eA, zw_u_off _ _ _ a1]
  have fB8 : ∀ y, y ≠ 4 → B 148 y = I 148 y := fun y hy => by rw [c2 148 (by decide), eA, zE_u2 _ _ (by omega)]
  obtain ⟨C, eC⟩ : ∃ C, C = zw_u B 148 2 0 := ⟨_, rfl⟩
  have hTM : zt_TM C T n := by
    refine ⟨hn, ?_, fun j hj => ⟨?_, (hT j hj).2⟩⟩
    · rw [eC, zE_u2 _ _ (by omega), c2 148 (by decide), eA, zE_u1]
    · rw [eC, zw_u_off _ _ _ (by decide), B150 j hj]
      exact zX_by255 _ (hT j hj).2
  obtain ⟨D, J1, d1, ⟨d2, d3, d4⟩, d5⟩ := zt_cut (sw := sw) hTM hJ
  -- the start
  obtain ⟨E, eE⟩ : ∃ E, E = zw_u (zw_u (zw_u (zw_u (zw_u D 148 11 0) 148 12 0) 148 13 0) 148 15 0) 148 19 (nI (zq_lv b)) := ⟨_, rfl⟩
  obtain ⟨F, eF⟩ : ∃ F, F = zw_u (zw_u (zw_u (zw_u (zw_u (zw_u E 156 (zq_lv b) 0) 158 (zq_lv b) 0) 162 (zq_lv b) 0) 163 (zq_lv b) 0) 167 (zq_lv b) 0) 168 (zq_lv b) 0 := ⟨_, rfl⟩
  obtain ⟨G, eG⟩ : ∃ G, G = zw_u (zw_u F 148 37 (nI (200 * zq_lv b))) 148 44 (nI (520 * zq_lv b)) := ⟨_, rfl⟩
  have E19 : E 148 19 = nI (zq_lv b) := by rw [eE, zE_u1]
  have fE : ∀ a, a ≠ 148 → E a = D a := fun a ha => by rw [eE, zw_u_off _ _ _ ha, zw_u_off _ _ _ ha, zw_u_off _ _ _ ha, zw_u_off _ _ _ ha, zw_u_off _ _ _ ha]
  have F8 : F 148 = E 148 := by rw [eF, zw_u_off _ _ _ (by decide), zw_u_off _ _ _ (by decide), zw_u_off _ _ _ (by decide), zw_u_off _ _ _ (by decide), zw_u_off _ _ _ (by decide), zw_u_off _ _ _ (by decide)]
  have fF : ∀ a, a ≠ 156 → a ≠ 158 → a ≠ 162 → a ≠ 163 → a ≠ 167 → a ≠ 168 → F a = E a := fun a a1 a2 a3 a4 a5 a6 => by rw [eF, zw_u_off _ _ _ a6, zw_u_off _ _ _ a5, zw_u_off _ _ _ a4, zw_u_off _ _ _ a3, zw_u_off _ _ _ a2, zw_u_off _ _ _ a1]
  have fG : ∀ a, a ≠ 148 → G a = F a := fun a ha => by rw [eG, zw_u_off _ _ _ ha, zw_u_off _ _ _ ha]
  have G44 : G 148 44 = nI (520 * zq_lv b) := by rw [eG, zE_u1]
  have G37 : G 148 37 = nI (200 * zq_lv b) := by rw [eG, zE_u2 _ _ (by omega), zE_u1]
  have G8 : ∀ y, y ≠ 37 → y ≠ 44 → G 148 y = E 148 y := fun y y1 y2 => by rw [eG, zE_u2 _ _ (by omega), zE_u2 _ _ (by omega), F8]
  have E8 : ∀ y, y ≠ 11 → y ≠ 12 → y ≠ 13 → y ≠ 15 → y ≠ 19 → E 148 y = D 148 y := fun y y1 y2 y3 y4 y5 => by rw [eE, zE_u2 _ _ (by omega), zE_u2 _ _ (by omega), zE_u2 _ _ (by omega), zE_u2 _ _ (by omega), zE_u2 _ _ (by omega)]
  have D8 : ∀ y, y ≠ 2 → y ≠ 4 → y ≠ 10 → D 148 y = I 148 y := fun y y1 y2 y3 => by rw [d3 y y3, eC, zE_u2 _ _ (by omega)]; exact fB8 y y2
  have Ga : ∀ a, a ≠ 148 → ¬ (150 ≤ a ∧ a ≤ 153) → ¬ (156 ≤ a ∧ a ≤ 168) → G a = I a := fun a a1 a2 a3 => by rw [fG a a1, fF a (by omega) (by omega) (by omega) (by omega) (by omega) (by omega), fE a a1, d2 a a1 (by omega) (by omega) (by omega), eC, zw_u_off _ _ _ a1, fB a a1 (by omega)]
  have Gi : ∀ a i, a ≠ 148 → ¬ (150 ≤ a ∧ a ≤ 153) → i ≠ zq_lv b → G a i = I a i := fun a i a1 a2 a3 => by
    have e1 : F a i = E a i := by rw [eF, zE_u2 _ _ (by omega), zE_u2 _ _ (by omega), zE_u2 _ _ (by omega), zE_u2 _ _ (by omega), zE_u2 _ _ (by omega), zE_u2 _ _ (by omega)]
    rw [fG a a1, e1, fE a a1, d2 a a1 (by omega) (by omega) (by omega), eC, zw_u_off _ _ _ a1, fB a a1 (by omega)]
  have Gm : ∀ a, 157 ≤ a → a ≤ 180 → a ≠ 158 → a ≠ 162 → a ≠ 163 → a ≠ 167 → a ≠ 168 → G a = I a := fun a a1 a2 a3 a4 a5 a6 a7 => by rw [fG a (by omega), fF a (by omega) a3 a4 a5 a6 a7, fE a (by omega), d2 a (by omega) (by omega) (by omega) (by omega), eC, zw_u_off _ _ _ (by omega), fB a (by omega) (by omega)]
  have hY : zp_Y T n G J1 := by
    refine ⟨hn, fun j hj => (hT j hj).2, fun j hj hg => ?_⟩
    refine zt_M1_tr (d5 j hj (fun i hi => (hg i hi).1)) ?_ ?_ ?_ rfl
    · rw [fG 151 (by decide), fF 151 (by decide) (by decide) (by decide) (by decide) (by decide) (by decide), fE 151 (by decide)]
    · rw [fG 152 (by decide), fF 152 (by decide) (by decide) (by decide) (by decide) (by decide) (by decide), fE 152 (by decide)]
    · rw [fG 153 (by decide), fF 153 (by decide) (by decide) (by decide) (by decide) (by decide) (by decide), fE 153 (by decide)]
  have G150 : G 150 = B 150 := by rw [fG 150 (by decide), fF 150 (by decide) (by decide) (by decide) (by decide) (by decide) (by decide), fE 150 (by decide), d2 150 (by decide) (by decide) (by decide) (by decide), eC, zw_u_off _ _ _ (by decide)]
  have hx : ∀ j, j < n → G 150 j = zx_by (T j) := fun j hj => by rw [G150]; exact B150 j hj
  obtain ⟨p, p1, p2⟩ := h16
  have s0 : ∀ a, a = 156 ∨ a = 158 ∨ a = 162 ∨ a = 163 ∨ a = 167 ∨ a = 168 → G a (zq_lv b) = 0 := by
    intro a ha
    rw [fG a (by omega), eF]
    unfold zw_u
    rcases ha with rfl | rfl | rfl | rfl | rfl | rfl <;> simp
  have M0 : zx_M b T n G G J1 0 zx_s0 := by
    refine ⟨⟨fun _ _ _ => rfl, fun _ _ => rfl, fun _ _ _ _ _ _ => rfl⟩, ⟨?_, ?_, ?_, ?_, ?_, p, p1, ?_, fun q => absurd rfl q⟩, hY, ⟨hn, ?_, fun j hj => ⟨by rw [hx j hj]; exact zX_by255 _ (hT j hj).2, (hT j hj).2⟩⟩, ⟨s0 156 (by omega), fun v => ⟨fun ⟨i, hi, _⟩ => absurd hi (Nat.not_lt_zero _), fun ⟨u, hu, _⟩ => absurd hu List.not_mem_nil⟩⟩, ⟨s0 158 (by omega), s0 162 (by omega), s0 163 (by omega), s0 167 (by omega), s0 168 (by omega)⟩, 520 * zq_lv b, 200 * zq_lv b, G44, G37, Nat.le_refl _, Nat.le_refl _, Nat.le_refl _, by omega, fun _ => ⟨fun k hk => absurd hk (Nat.not_lt_zero _), fun k hk => ?_, fun k hk => ?_⟩⟩
    · rw [G8 13 (by decide) (by decide), eE, zE_u2 _ _ (by omega), zE_u2 _ _ (by omega), zE_u1]
    · rw [G8 11 (by decide) (by decide), eE, zE_u2 _ _ (by omega), zE_u2 _ _ (by omega), zE_u2 _ _ (by omega), zE_u2 _ _ (by omega), zE_u1]; rfl
    · rw [G8 12 (by decide) (by decide), eE, zE_u2 _ _ (by omega), zE_u2 _ _ (by omega), zE_u2 _ _ (by omega), zE_u1]
    · rw [G8 19 (by decide) (by decide)]; exact E19
    · rw [G8 15 (by decide) (by decide), eE, zE_u2 _ _ (by omega), zE_u1]; rfl
    · rw [G8 16 (by decide) (by decide), E8 16 (by decide) (by decide) (by decide) (by decide) (by decide), D8 16 (by decide) (by decide) (by decide)]; exact p2
    · rw [G8 4 (by decide) (by decide), E8 4 (by decide) (by decide) (by decide) (by decide) (by decide), d3 4 (by decide), eC, zE_u2 _ _ (by omega), c2 148 (by decide), eA, zE_u1]
    · have hk : k < 0 ∨ (6 ≤ k ∧ k < 6 + 0) := hk
      omega
    · have hk : k < 0 ∨ (8 ≤ k ∧ k < 8 + 0) := hk
      omega
  obtain ⟨K, J2, t1, t2, t3⟩ := zx_textM (sw := sw) (b := b) hx 501 0 1000000 G J1 zx_s0 (zx_P0 T n) M0 (by omega) (by omega)
  have hKY : zt_KY J2 := by
    intro k hk
    rw [t3 155 (by decide), d4 155 (by decide)]
    exact hJ k hk
  have hd : f_X11_read 148 I (zE_R sw) J = j_X11_read_181 148 K (zE_R sw) J2 := by
    have w6 : ∀ (X : zI) (a k : Nat) (v : Int32), a ≠ 148 → zw_u X a k v 148 = X 148 := fun X a k v ha => zw_u_off _ _ _ (fun e => ha e.symm)
    have x156 : ∀ (X : zI) k v, zw_u X 156 k v 148 = X 148 := fun X k v => w6 X 156 k v (by decide)
    have x158 : ∀ (X : zI) k v, zw_u X 158 k v 148 = X 148 := fun X k v => w6 X 158 k v (by decide)
    have x162 : ∀ (X : zI) k v, zw_u X 162 k v 148 = X 148 := fun X k v => w6 X 162 k v (by decide)
    have x163 : ∀ (X : zI) k v, zw_u X 163 k v 148 = X 148 := fun X k v => w6 X 163 k v (by decide)
    have x167 : ∀ (X : zI) k v, zw_u X 167 k v 148 = X 148 := fun X k v => w6 X 167 k v (by decide)
    have x168 : ∀ (X : zI) k v, zw_u X 168 k v 148 = X 148 := fun X k v => w6 X 168 k v (by decide)
    have x37 : ∀ (X : zI) v, zw_u X 148 37 v 148 19 = X 148 19 := fun X v => zE_u2 _ _ (by omega)
    have e18 : zw_u (zw_u (zw_u (zw_u D 148 11 0) 148 12 0) 148 13 0) 148 15 0 148 18 = nI (zq_lv lv) := by
      rw [zE_u2 _ _ (by omega), zE_u2 _ _ (by omega), zE_u2 _ _ (by omega), zE_u2 _ _ (by omega), D8 18 (by decide) (by decide) (by decide)]
      exact h18
    have esd : (1 : Int32) - nI (zq_lv lv) = nI (zq_lv b) := by rw [eb]; exact zX_sd lv
    have e200 : (200 : Int32) * nI (zq_lv b) = nI (200 * zq_lv b) := pk_mul 200 _
    have e520 : (520 : Int32) * nI (zq_lv b) = nI (520 * zq_lv b) := pk_mul 520 _
    unfold f_X11_read
    rw [g8, zw_g_t, zw_let_e, h2, ← eA, c1, Option.bind_some, zw_let_e, ← eC, d1, Option.bind_some]
    simp only [zE_gM, zE_rM sw, zE_sM, zw_g_t, zw_let_e, e18, esd, ← eE, x156, x158, x162, x163, x167, x168, x37, E19, zE_in (show zq_lv b < 2 from hlv) (by decide), zE_cl (show zq_lv b < 2 ^ 31 by omega), e200, e520, ← eF, ← eG, t1, Option.bind_some]
  rw [hd]
  -- what stands in the side in use
  have frame : ∀ K2 : zI, (∀ a, a ≠ 148 → K2 a = K a) → zx_Fm b G K → zX_oM lv K2 I := by
    intro K2 f hF
    refine ⟨fun a a1 a2 a3 => by rw [f a a1, hF.1 a a1 a3]; exact Ga a a1 a2 (by omega), fun a i a1 a2 a3 a4 => ?_⟩
    rw [elv] at a3 a4
    rw [f a (by omega), hF.2.2 a i a1 a2 a3 a4]
    by_cases c : a = 156 ∨ a = 158 ∨ a = 162 ∨ a = 163 ∨ a = 167 ∨ a = 168
    · refine Gi a i (by omega) (by omega) ?_
      have w : zx_W a = 1 := by rcases c with rfl | rfl | rfl | rfl | rfl | rfl <;> rfl
      rw [w] at a3 a4
      intro e
      subst e
      cases b
      · have a3 : 1 * 1 ≤ 0 := a3
        omega
      · have a4 : 1 < (0 + 1) * 1 := a4
        omega
    · rw [Gm a (by omega) a2 (by omega) (by omega) (by omega) (by omega) (by omega)]
  have fields : zx_Fm b G K → ∀ y, ¬ zX_fd y → K 148 y = I 148 y := by
    intro hF y hy
    have h1 : ¬ zx_fd y := fun q => hy (Or.inr (Or.inr (Or.inr (Or.inl q))))
    have h3 : y ≠ 2 ∧ y ≠ 4 ∧ y ≠ 10 ∧ y ≠ 17 ∧ y ≠ 19 := by unfold zX_fd at hy; omega
    have h4 : y ≠ 11 ∧ y ≠ 12 ∧ y ≠ 13 ∧ y ≠ 15 ∧ y ≠ 37 ∧ y ≠ 44 := by unfold zx_fd at h1; omega
    rw [hF.2.1 y h1, G8 y h4.2.2.2.2.1 h4.2.2.2.2.2, E8 y h4.1 h4.2.1 h4.2.2.1 h4.2.2.2.1 h3.2.2.2.2, D8 y h3.1 h3.2.1 h3.2.2.1]
  have K2 : zx_Fm b G K → K 148 2 = 0 := by
    intro hF
    rw [hF.2.1 2 (by unfold zx_fd; omega), G8 2 (by decide) (by decide), E8 2 (by decide) (by decide) (by decide) (by decide) (by decide), d3 2 (by decide), eC, zE_u1]
  have n17 : ¬ zX_fd 17 → False := fun q => q (by unfold zX_fd; omega)
  cases hW : zx_text T n 501 0 zx_s0 with
  | inr y =>
    rw [hW] at t2
    have t2 : zx_MF b T n G K y.1 y.2 := t2
    obtain ⟨hF, u1, u2, u3, -, -, -, -, pp, v1, v2⟩ := id t2
    have k13 : ¬ (zw_u K 148 17 (nI (zt_a T n y.2))) 148 13 ≤ 0 := by rw [zE_u2 _ _ (by omega)]; exact t2.ne.2
    refine ⟨zw_u K 148 17 (nI (zt_a T n y.2)), J2, ?_, zE_u1 _ _ _ _, ?_, ?_, hKY, frame _ (fun a ha => zw_u_off _ _ _ ha) hF, Or.inl ⟨(fun x hx => by cases hx), fun z hz => ?_⟩⟩
    · unfold j_X11_read_181 j_X11_read_211
      rw [g8, zw_g_t, if_neg t2.ne.2, zw_g_t, u3, zw_let_e, zw_g_t, if_neg k13, zE_u2 _ _ (by omega), u2]
      rfl
    · rw [zE_u2 _ _ (by omega)]; exact K2 hF
    · exact ⟨pp, v1, by rw [zE_u2 _ _ (by omega)]; exact v2⟩
    · rw [zE_u2 _ _ (by unfold zX_fd at hz; omega)]
      exact fields hF z hz
  | inl x =>
    rw [hW] at t2
    have t2 : zx_M b T n G K J2 x.1 x.2 := t2
    obtain ⟨hF, ⟨b1, b2, b3, b4, b5, p', b6, b7, b8⟩, a3, a4, a5, ⟨c1', c2', c3', c4', c5'⟩, m, l, q1, q2, q3, q4, q5, q6, q7⟩ := id t2
    have ok := zx_text_ok (T := T) (n := n) 501 0 zx_s0 (zx_P0 T n) (by omega)
    rw [hW] at ok
    obtain ⟨ok, -⟩ := ok
    have x5 := ok.1
    have q9 := zx_q9 ok.2.2.2.2.2.2.2.2.2.1
    by_cases c : x.2.2.2.2.1 = 0
    · have k13 : (zw_u K 148 17 (-1)) 148 13 ≤ 0 := by rw [zE_u2 _ _ (by omega), b1]; decide
      have k15 : (zw_u K 148 17 (-1)) 148 15 ≤ 0 := by rw [zE_u2 _ _ (by omega), b5, c]; decide
      have k19 : (zw_u K 148 17 (-1)) 148 19 = nI (zq_lv b) := by rw [zE_u2 _ _ (by omega)]; exact b4
      obtain ⟨Z, eZ⟩ : ∃ Z, Z = zw_u (zw_u (zw_u (zw_u (zw_u (zw_u K 148 17 (-1)) 148 18 (nI (zq_lv b))) 148 61 0) 148 65 0) 148 70 0) 148 75 0 := ⟨_, rfl⟩
      have fZ : ∀ a, a ≠ 148 → Z a = K a := fun a ha => by rw [eZ, zw_u_off _ _ _ ha, zw_u_off _ _ _ ha, zw_u_off _ _ _ ha, zw_u_off _ _ _ ha, zw_u_off _ _ _ ha, zw_u_off _ _ _ ha]
      have fZ8 : ∀ y, y ≠ 17 → y ≠ 18 → y ≠ 61 → y ≠ 65 → y ≠ 70 → y ≠ 75 → Z 148 y = K 148 y := fun y y1 y2 y3 y4 y5 y6 => by rw [eZ, zE_u2 _ _ (by omega), zE_u2 _ _ (by omega), zE_u2 _ _ (by omega), zE_u2 _ _ (by omega), zE_u2 _ _ (by omega), zE_u2 _ _ (by omega)]
      refine ⟨Z, J2, ?_, ?_, by rw [fZ8 2 (by decide) (by decide) (by decide) (by decide) (by decide) (by decide)]; exact K2 hF, ⟨p', b6, by rw [fZ8 16 (by decide) (by decide) (by decide) (by decide) (by decide) (by decide)]; exact b7⟩, hKY, frame _ fZ hF, Or.inr ⟨x, m, l, rfl, c, fun y hy y1 y2 y3 y4 y5 => ?_, ?_, ?_, ?_, ?_, ?_, by rw [← eb]; omega, by rw [← eb]; omega, by rw [← eb]; exact zx_KM_tr (q7 c) (fun a a1 a2 => fZ a (by omega)), ?_, ?_, ?_, ?_, ?_⟩⟩
      · unfold j_X11_read_181 j_X11_read_211
        rw [g8, zw_g_t, if_pos (show K 148 13 ≤ 0 by rw [b1]; decide), if_pos (show K 148 15 ≤ 0 by rw [b5, c]; decide), zw_g_t, zw_let_e, zw_g_t, if_pos k13, if_pos k15, k19, zw_let_e, zw_let_e, zw_let_e, zw_let_e, zw_let_e, ← eZ]
        show some (0, Z, J2) = some (nI x.2.2.2.2.1, Z, J2)
        rw [c]
        rfl
      · show Z 148 17 = zx_pl x.2.2.2.2
        unfold zx_pl
        rw [if_pos c, eZ, zE_u2 _ _ (by omega), zE_u2 _ _ (by omega), zE_u2 _ _ (by omega), zE_u2 _ _ (by omega), zE_u2 _ _ (by omega), zE_u1]
      · rw [fZ8 y (by unfold zX_fd at hy; omega) y1 y2 y3 y4 y5]
        exact fields hF y hy
      · rw [← eb, eZ, zE_u2 _ _ (by omega), zE_u2 _ _ (by omega), zE_u2 _ _ (by omega), zE_u2 _ _ (by omega), zE_u1]
      · rw [eZ, zE_u2 _ _ (by omega), zE_u2 _ _ (by omega), zE_u2 _ _ (by omega), zE_u1]
      · rw [eZ, zE_u2 _ _ (by omega), zE_u2 _ _ (by omega), zE_u1]
      · rw [eZ, zE_u2 _ _ (by omega), zE_u1]
      · rw [eZ, zE_u1]
      · rw [← eb, fZ 158 (by decide)]; exact c1'
      · rw [← eb, fZ 162 (by decide)]; exact c2'
      · rw [← eb, fZ 163 (by decide)]; exact c3'
      · rw [← eb, fZ 167 (by decide)]; exact c4'
      · rw [← eb, fZ 168 (by decide)]; exact c5'
    · have e16 : K 148 16 = nI x.2.2.2.2.2 := by rw [b7, b8 c]
      have k13 : (zw_u K 148 17 (nI x.2.2.2.2.2)) 148 13 ≤ 0 := by rw [zE_u2 _ _ (by omega), b1]; decide
      have k15 : ¬ (zw_u K 148 17 (nI x.2.2.2.2.2)) 148 15 ≤ 0 := by rw [zE_u2 _ _ (by omega), b5]; exact nI_nle (by omega) (by omega)
      refine ⟨zw_u K 148 17 (nI x.2.2.2.2.2), J2, ?_, ?_, ?_, ⟨p', b6, by rw [zE_u2 _ _ (by omega)]; exact b7⟩, hKY, frame _ (fun a ha => zw_u_off _ _ _ ha) hF, Or.inl ⟨(fun z hz => by cases hz; exact c), fun z hz => ?_⟩⟩
      · unfold j_X11_read_181 j_X11_read_211
        rw [g8, zw_g_t, if_pos (show K 148 13 ≤ 0 by rw [b1]; decide), if_neg (show ¬ K 148 15 ≤ 0 by rw [b5]; exact nI_nle (by omega) (by omega)), zw_g_t, e16, zw_let_e, zw_g_t, if_pos k13, if_neg k15, zE_u2 _ _ (by omega), b5]
        rfl
      · rw [zE_u1]
        show nI x.2.2.2.2.2 = zx_pl x.2.2.2.2
        unfold zx_pl
        rw [if_neg c]
      · rw [zE_u2 _ _ (by omega)]; exact K2 hF
      · rw [zE_u2 _ _ (by unfold zX_fd at hz; omega)]
        exact fields hF z hz
