/-! ===== left, next ===== -/
noncomputable def zq_nb (I : zI) (H : zq_H) (n s : Nat) : Bool := @decide (∀ k, k < n → ¬ zq_Bar I H n s k) (Classical.propDecidable _)
theorem zq_nb1 {I : zI} {H : zq_H} {n s : Nat} (h : ∀ k, k < n → ¬ zq_Bar I H n s k) : zq_nb I H n s = true := by unfold zq_nb; exact @decide_eq_true _ (Classical.propDecidable _) h
theorem zq_nb0 {I : zI} {H : zq_H} {n s k : Nat} (hk : k < n) (h : zq_Bar I H n s k) : zq_nb I H n s = false := by
  unfold zq_nb
  exact @decide_eq_false _ (Classical.propDecidable _) (fun q => q k hk h)
noncomputable def zq_om (I : zI) (H : zq_H) (n : Nat) : Nat → Nat
  | 0 => 0
  | s + 1 => if zq_nb I H n s = true then zq_om I H n s + 2 ^ s else zq_om I H n s
theorem zq_om_lt (I : zI) (H : zq_H) (n : Nat) : ∀ s, zq_om I H n s < 2 ^ s
  | 0 => by unfold zq_om; decide
  | s + 1 => by
    have := zq_om_lt I H n s
    have e : 2 ^ (s + 1) = 2 ^ s + 2 ^ s := by rw [Nat.pow_succ]; omega
    unfold zq_om
    split <;> omega
theorem zq_or : ∀ s, s < 4 → ∀ m, m < 16 → m < 2 ^ s → nI m ||| ((1 : Int32) <<< (nI s &&& 31)) = nI (m + 2 ^ s) := by decide +kernel
theorem zq_bit : ∀ s, s < 4 → ∀ m, m < 16 → (nI m >>> (nI s &&& 31)) &&& 1 = nI (m / 2 ^ s % 2) := by decide +kernel
theorem zq_some : ∀ ns, ns < 5 → ∀ m, m < 16 → m < 2 ^ ns → (¬ nI m &&& (nI m - 1) = 0) → ∃ s, s < ns ∧ m / 2 ^ s % 2 = 1 := by decide +kernel
theorem zq_two : ∀ m, m < 16 → ∃ c, f_J6_bitCount_0f7a4 (nI m) = some c ∧ (2 ≤ c ↔ ¬ nI m &&& (nI m - 1) = 0) := by
  have h : ∀ m, m < 16 → ∃ k, k < 33 ∧ f_J6_bitCount_0f7a4 (nI m) = some (nI k) ∧ (2 ≤ nI k ↔ ¬ nI m &&& (nI m - 1) = 0) := by decide +kernel
  intro m hm
  obtain ⟨k, -, h1, h2⟩ := h m hm
  exact ⟨nI k, h1, h2⟩
theorem zq_om16 {I : zI} {H : zq_H} {n s : Nat} (hs : s ≤ 4) : zq_om I H n s < 16 := by
  have h1 := zq_om_lt I H n s
  have h2 : 2 ^ s ≤ 2 ^ 4 := Nat.pow_le_pow_right (by decide) hs
  omega
theorem zq_Bar_tr {I2 I : zI} {H : zq_H} (ht : ∀ a, 142 ≤ a → a ≤ 146 → I2 a = I a) (n s k : Nat) : zq_Bar I2 H n s k ↔ zq_Bar I H n s k := by
  unfold zq_Bar zq_St zq_far
  rw [ht 146 (by omega) (by omega), ht 145 (by omega) (by omega), ht 144 (by omega) (by omega), ht 143 (by omega) (by omega)]
theorem zq_nb_tr {I2 I : zI} {H : zq_H} (ht : ∀ a, 142 ≤ a → a ≤ 146 → I2 a = I a) (n s : Nat) : zq_nb I2 H n s = zq_nb I H n s := by
  unfold zq_nb
  congr 1
  exact propext ⟨fun h k hk q => h k hk ((zq_Bar_tr ht n s k).mpr q), fun h k hk q => h k hk ((zq_Bar_tr ht n s k).mp q)⟩
theorem zq_om_tr {I2 I : zI} {H : zq_H} (ht : ∀ a, 142 ≤ a → a ≤ 146 → I2 a = I a) (n : Nat) : ∀ s, zq_om I2 H n s = zq_om I H n s
  | 0 => rfl
  | s + 1 => by unfold zq_om; rw [zq_nb_tr ht n s, zq_om_tr ht n s]
theorem zq_openC {b : Bool} {I : zI} {H : zq_H} {nt n : Nat} (hK : zq_HK H) (hB : zq_BC b I H) (hU : zq_TE I nt H) (hn : n ≤ nt) : ∃ I2, f_X10_openStuffs 1 (nI n) I (zE_R b) = some (nI (zq_om I H n H.ns), I2) ∧ zq_BC b I2 H ∧ zq_fC I2 I := by
  have k1 := hK.1
  have h60 := hU.1
  obtain ⟨r, l1, l2⟩ := zE_for (step := s_X10_openStuffs_4 1 (nI n) (zE_R b)) (fun i z => z.1 = nI (zq_om I H n i) ∧ z.2.1 = nI i ∧ zq_BC b z.2.2 H ∧ zq_fC z.2.2 I) (fun r => r.1 = nI (zq_om I H n H.ns) ∧ zq_BC b r.2 H ∧ zq_fC r.2 I) H.ns (by
    rintro i ⟨z0, z1, K⟩ hi ⟨e0, e1, e2, e3⟩
    dsimp only at e0 e1 e2 e3
    subst e0 e1
    have ht : ∀ a, 142 ≤ a → a ≤ 146 → K a = I a := fun a h1 h2 => e3 a (by omega) (by omega)
    have hUK : zq_TE K nt H := zq_TE_tr hU ht (fun a h1 h2 => e3 a (by omega) (by omega)) (by rw [e3 148 (by omega) (by omega)])
    obtain ⟨r1, I1, c1, c2, c3, c4⟩ := zq_barC hK e2 hUK hn hi
    unfold s_X10_openStuffs_4 j_X10_openStuffs_32_4
    simp only [zE_gC, zE_rh b, zE_gH b, zw_g_t, zw_let_e, e2.1.1, if_neg (nI_ge hi (by omega)), c1, Option.bind_some, nI_1]
    refine Or.inl ?_
    rcases c4 with ⟨w1, w2⟩ | ⟨k, hk, w1, w2, w3⟩
    · have hnb := zq_nb1 w2
      rw [zq_nb_tr ht] at hnb
      rw [w1, if_neg (fun q => q rfl), zq_or i (by omega) _ (zq_om16 (by omega)) (zq_om_lt I H n i)]
      refine ⟨_, rfl, ?_, rfl, c2, c3.tr e3⟩
      show nI _ = nI (if zq_nb I H n i = true then _ else _)
      rw [if_pos hnb]
    · have hnb := zq_nb0 hk w2
      rw [zq_nb_tr ht] at hnb
      rw [w1, if_pos (by
        intro q
        have := congrArg Int32.toInt q
        rw [nI_toInt (by omega)] at this
        have e : (-2 : Int32).toInt = -2 := by decide
        omega)]
      refine ⟨_, rfl, ?_, rfl, c2, c3.tr e3⟩
      show nI _ = nI (if zq_nb I H n i = true then _ else _)
      rw [if_neg (by rw [hnb]; decide)]) (by
    rintro ⟨z0, z1, K⟩ ⟨e0, e1, e2, e3⟩
    dsimp only at e0 e1 e2 e3
    subst e0 e1
    unfold s_X10_openStuffs_4
    simp only [zE_gC, zE_rh b, zE_gH b, zw_g_t, e2.1.1, if_pos (nI_le (Nat.le_refl H.ns) (by omega))]
    exact ⟨_, rfl, rfl, e2, e3⟩) 0 (0, 0, I) (Nat.zero_le _) (by omega) ⟨rfl, rfl, hB, fun _ _ _ => rfl⟩
  unfold f_X10_openStuffs
  obtain ⟨r1, r2⟩ := r
  dsimp only at l2
  rw [l1, ← l2.1]
  exact ⟨_, rfl, l2.2.1, l2.2.2⟩
theorem zq_openM {b : Bool} {I : zI} {H : zq_H} {nt n : Nat} (hK : zq_HK H) (hM : zq_HM b I H) (hU : zq_TE I nt H) (hn : n ≤ nt) : ∃ I2, f_X11_leftBy 148 (nI n) I (zE_R b) = some (nI (zq_om I H n H.ns), I2) ∧ zq_HM b I2 H ∧ zq_fM I2 I := by
  have k1 := hK.1
  have hl := zq_lv1 b
  have h60 := hU.1
  obtain ⟨r, l1, l2⟩ := zE_for (step := s_X11_leftBy_4 148 (nI n) (zE_R b)) (fun i z => z.1 = nI (zq_om I H n i) ∧ z.2.1 = nI i ∧ zq_HM b z.2.2 H ∧ zq_fM z.2.2 I) (fun r => r.1 = nI (zq_om I H n H.ns) ∧ zq_HM b r.2 H ∧ zq_fM r.2 I) H.ns (by
    rintro i ⟨z0, z1, K⟩ hi ⟨e0, e1, e2, e3⟩
    dsimp only at e0 e1 e2 e3
    subst e0 e1
    have ht : ∀ a, 142 ≤ a → a ≤ 146 → K a = I a := fun a h1 h2 => e3.1 a (by omega) (by omega) (by omega)
    have hUK : zq_TE K nt H := zq_TE_tr hU ht (fun a h1 h2 => e3.1 a (by omega) (by omega) (by omega)) (e3.2 75 (by omega))
    obtain ⟨r1, I1, c1, c2, c3, c4⟩ := zq_barM hK e2 hUK hn hi
    unfold s_X11_leftBy_4 j_X11_leftBy_33_4
    simp only [zE_gM, zE_rM b, zE_sM, zw_g_t, zw_let_e, e2.1, zE_in (k := zq_lv b) (n := 2) hl (by decide), zE_cl (k := zq_lv b) (by omega), e2.2.1, if_neg (nI_ge hi (by omega)), c1, Option.bind_some, nI_1]
    refine Or.inl ?_
    rcases c4 with ⟨w1, w2⟩ | ⟨k, hk, w1, w2, w3⟩
    · have hnb := zq_nb1 w2
      rw [zq_nb_tr ht] at hnb
      rw [w1, if_neg (fun q => q rfl), zq_or i (by omega) _ (zq_om16 (by omega)) (zq_om_lt I H n i)]
      refine ⟨_, rfl, ?_, rfl, c2, c3.tr e3⟩
      show nI _ = nI (if zq_nb I H n i = true then _ else _)
      rw [if_pos hnb]
    · have hnb := zq_nb0 hk w2
      rw [zq_nb_tr ht] at hnb
      rw [w1, if_pos (zq_nm1 (by omega))]
      refine ⟨_, rfl, ?_, rfl, c2, c3.tr e3⟩
      show nI _ = nI (if zq_nb I H n i = true then _ else _)
      rw [if_neg (by rw [hnb]; decide)]) (by
    rintro ⟨z0, z1, K⟩ ⟨e0, e1, e2, e3⟩
    dsimp only at e0 e1 e2 e3
    subst e0 e1
    unfold s_X11_leftBy_4
    simp only [zE_gM, zE_rM b, zE_sM, zw_g_t, e2.1, zE_in (k := zq_lv b) (n := 2) hl (by decide), zE_cl (k := zq_lv b) (by omega), e2.2.1, if_pos (nI_le (Nat.le_refl H.ns) (by omega))]
    exact ⟨_, rfl, rfl, e2, e3⟩) 0 (0, 0, I) (Nat.zero_le _) (by omega) ⟨rfl, rfl, hM, zq_fM.rf I⟩
  unfold f_X11_leftBy
  obtain ⟨r1, r2⟩ := r
  dsimp only at l2
  rw [l1, ← l2.1]
  exact ⟨_, rfl, l2.2.1, l2.2.2⟩
theorem zq_known1 {I1 I : zI} {H : zq_H} {nt n : Nat} (hU : zq_TE I nt H) (hn : n ≤ nt) : f_X11_isKnown 148 (nI n) I = some 1 ∧ f_X9_hasFirst 142 (nI n) I = some 1 := by
  have h60 := hU.1
  rcases zq_known hU (nI n) with ⟨h5, -⟩ | ⟨n2, hn2, e2, h5, h6⟩
  · exfalso
    unfold f_X9_hasFirst at h5
    rw [if_neg (nI_pos (n := n) (by omega)), zE_gC.2.2.2.2.2.2.2.2.2.2.2.2.2.2.2.2.2.2.2.2.2.2.2.2.2.2.2.1, zw_g_t, hU.2.1, if_neg (nI_nlt hn (by omega))] at h5
    cases h5
  · exact ⟨h6, h5⟩
/-- left -/
theorem zq_leftE {b : Bool} {I : zI} {H : zq_H} {nt : Nat} (hK : zq_HK H) (hB : zq_BC b I H) (hM : zq_HM b I H) (hU : zq_TE I nt H) (v : Int32) : ∃ r I1 I2, f_X10_left 1 v I (zE_R b) = some (r, I1) ∧ f_X11_left 148 v I1 (zE_R b) = some (r, I2) ∧ zq_BC b I2 H ∧ zq_HM b I2 H ∧ zq_oBr I2 I := by
  unfold f_X10_left
  simp only [zE_gC, zE_rC b, zw_g_t]
  rcases zq_known hU v with ⟨h3, h4⟩ | ⟨n, hn, rfl, h3, h4⟩
  · rw [h3]
    refine ⟨_, _, _, rfl, ?_, hB, hM, ⟨fun _ _ _ _ _ _ => rfl, fun _ _ => rfl⟩⟩
    unfold f_X11_left
    simp only [zE_gM, zw_g_t, h4]
    rfl
  rw [h3, Option.bind_some, if_neg zE_10]
  obtain ⟨I1, c1, c2, c3⟩ := zq_openC hK hB hU hn
  have hM1 := zq_HM_C hM c3
  have ht : ∀ a, 142 ≤ a → a ≤ 146 → I1 a = I a := fun a h1 h2 => c3 a (by omega) (by omega)
  have hU1 : zq_TE I1 nt H := zq_TE_tr hU ht (fun a h1 h2 => c3 a (by omega) (by omega)) (by rw [c3 148 (by omega) (by omega)])
  obtain ⟨I2, m1, m2, m3⟩ := zq_openM hK hM1 hU1 hn
  rw [zq_om_tr ht] at m1
  rw [c1]
  refine ⟨_, _, I2, rfl, ?_, zq_BC_M hK c2 (fun a ha => m3.1 a (by omega) (by omega) (by omega)), m2, zq_oBr.of c3 m3⟩
  unfold f_X11_left
  simp only [zE_gM, zw_g_t, (zq_known1 (I1 := I) hU1 hn).1, Option.bind_some, if_neg zE_10, m1]
/-- spread: the class's way, and the model's -/
def zq_sg (H : zq_H) (c co m : Nat) : Nat → Int32 × Int32
  | 0 => (0, 12000)
  | s + 1 => if m / 2 ^ s % 2 = 1 then ((if (zq_sg H c co m s).1 < zq_br H c s co then zq_br H c s co else (zq_sg H c co m s).1), (if zq_br H c s co < (zq_sg H c co m s).2 then zq_br H c s co else (zq_sg H c co m s).2)) else zq_sg H c co m s
def zq_sm (H : zq_H) (c co m : Nat) : Nat → Int32 × Int32
  | 0 => (-1, -1)
  | s + 1 => if m / 2 ^ s % 2 = 1 then ((if (zq_sm H c co m s).1 < 0 then zq_br H c s co else if (zq_sm H c co m s).1 ≤ zq_br H c s co then (zq_sm H c co m s).1 else zq_br H c s co), (if zq_br H c s co ≤ (zq_sm H c co m s).2 then (zq_sm H c co m s).2 else zq_br H c s co)) else zq_sm H c co m s
theorem zq_spE {H : zq_H} (hK : zq_HK H) {c co m : Nat} (hc : c < H.nc) : ∀ s, ((∀ j, j < s → ¬ m / 2 ^ j % 2 = 1) ∧ zq_sg H c co m s = (0, 12000) ∧ zq_sm H c co m s = (-1, -1)) ∨ ((∃ j, j < s ∧ m / 2 ^ j % 2 = 1) ∧ ∃ g l, g ≤ 12000 ∧ l ≤ 12000 ∧ zq_sg H c co m s = (nI g, nI l) ∧ zq_sm H c co m s = (nI l, nI g))
  | 0 => Or.inl ⟨fun j hj => by omega, rfl, rfl⟩
  | s + 1 => by
    obtain ⟨σ, hσ, hb⟩ := zq_br_b hK (s := s) (co := co) hc
    unfold zq_sg zq_sm
    by_cases hm : m / 2 ^ s % 2 = 1
    · rw [if_pos hm, if_pos hm, hσ]
      refine Or.inr ⟨⟨s, by omega, hm⟩, ?_⟩
      rcases zq_spE hK hc s with ⟨-, h1, h2⟩ | ⟨-, g, l, hg, hl, h1, h2⟩
      · rw [h1, h2]
        refine ⟨σ, σ, hb, hb, ?_, ?_⟩
        · have a1 : (if (0 : Int32) < nI σ then nI σ else 0) = nI σ := by
            by_cases h0 : σ = 0
            · subst h0; rfl
            · rw [if_pos (show (0 : Int32) < nI σ from nI_lt (a := 0) (by omega) (by omega))]
          have a2 : (if nI σ < (12000 : Int32) then nI σ else 12000) = nI σ := by
            by_cases h0 : σ = 12000
            · subst h0; rfl
            · rw [if_pos (show nI σ < 12000 from nI_lt (b := 12000) (by omega) (by decide))]
          exact Prod.ext a1 a2
        · have a2 : ¬ nI σ ≤ (-1 : Int32) := by
            rw [Int32.le_iff_toInt_le, nI_toInt (by omega), show (-1 : Int32).toInt = -1 by decide]; omega
          refine Prod.ext ?_ (if_neg a2)
          show (if (-1 : Int32) < 0 then nI σ else (if (-1 : Int32) ≤ nI σ then (-1 : Int32) else nI σ)) = nI σ
          rw [if_pos (show (-1 : Int32) < 0 by decide)]
      · rw [h1, h2]
        refine ⟨max g σ, min l σ, by omega, by omega, ?_, ?_⟩
        · refine Prod.ext ?_ ?_
          · show (if nI g < nI σ then nI σ else nI g) = _
            by_cases h0 : g < σ
            · rw [if_pos (nI_lt h0 (by omega)), Nat.max_eq_right (by omega)]
            · rw [if_neg (nI_nlt (by omega) (by omega)), Nat.max_eq_left (by omega)]
          · show (if nI σ < nI l then nI σ else nI l) = _
            by_cases h0 : σ < l
            · rw [if_pos (nI_lt h0 (by omega)), Nat.min_eq_right (by omega)]
            · rw [if_neg (nI_nlt (by omega) (by omega)), Nat.min_eq_left (by omega)]
        · refine Prod.ext ?_ ?_
          · show (if nI l < 0 then nI σ else if nI l ≤ nI σ then nI l else nI σ) = _
            rw [if_neg (nI_pos (n := l) (by omega))]
            by_cases h0 : l ≤ σ
            · rw [if_pos (nI_le h0 (by omega)), Nat.min_eq_left (by omega)]
            · rw [if_neg (nI_ge (by omega) (by omega)), Nat.min_eq_right (by omega)]
          · show (if nI σ ≤ nI g then nI g else nI σ) = _
            by_cases h0 : σ ≤ g
            · rw [if_pos (nI_le h0 (by omega)), Nat.max_eq_left (by omega)]
            · rw [if_neg (nI_ge (by omega) (by omega)), Nat.max_eq_right (by omega)]
    · rw [if_neg hm, if_neg hm]
      rcases zq_spE hK hc s with ⟨h0, h1, h2⟩ | ⟨⟨j, hj, hj2⟩, h1⟩
      · refine Or.inl ⟨fun j hj => ?_, h1, h2⟩
        by_cases hjs : j = s
        · rw [hjs]; exact hm
        · exact h0 j (by omega)
      · exact Or.inr ⟨⟨j, by omega, hj2⟩, h1⟩
theorem zq_spreadC {b : Bool} {I : zI} {H : zq_H} (hK : zq_HK H) (hB : zq_BC b I H) {c co m : Nat} (hc : c < H.nc) (hco : co < 4) (hm : m < 16) : ∃ I2, f_X10_spread 1 (nI c) (nI co) (nI m) I (zE_R b) = some ((zq_sg H c co m H.ns).1 - (zq_sg H c co m H.ns).2, I2) ∧ zq_BC b I2 H ∧ zq_fC I2 I := by
  have k1 := hK.1
  obtain ⟨r, l1, l2⟩ := zE_for (step := s_X10_spread_11 1 (nI c) (nI co) (nI m) (zE_R b)) (fun i z => z.1 = (zq_sg H c co m i).1 ∧ z.2.1 = (zq_sg H c co m i).2 ∧ z.2.2.1 = nI i ∧ zq_BC b z.2.2.2 H ∧ zq_fC z.2.2.2 I) (fun r => r.1 = (zq_sg H c co m H.ns).1 ∧ r.2.1 = (zq_sg H c co m H.ns).2 ∧ zq_BC b r.2.2 H ∧ zq_fC r.2.2 I) H.ns (by
    rintro i ⟨z0, z1, z2, K⟩ hi ⟨e0, e1, e2, e3, e4⟩
    dsimp only at e0 e1 e2 e3 e4
    subst e0 e1 e2
    obtain ⟨I1, c1, c2, c3⟩ := zq_brC hK e3 hc hi hco
    unfold s_X10_spread_11 j_X10_spread_60_11 f_X10_isTold
    simp only [zE_gC, zE_rh b, zE_gH b, zw_g_t, zw_let_e, e3.1.1, if_neg (nI_ge hi (by omega)), zq_bit i (by omega) m hm, c1, Option.bind_some, nI_1]
    refine Or.inl ?_
    by_cases hb : m / 2 ^ i % 2 = 1
    · rw [hb, if_neg (show ¬ ¬ nI 1 = 1 from fun q => q rfl), Option.bind_some, if_neg zE_10]
      refine ⟨_, rfl, ?_, ?_, rfl, c2, c3.tr e4⟩
      · show _ = (if m / 2 ^ i % 2 = 1 then _ else _ : Int32 × Int32).1
        rw [if_pos hb]
      · show _ = (if m / 2 ^ i % 2 = 1 then _ else _ : Int32 × Int32).2
        rw [if_pos hb]
    · rw [if_pos (show ¬ nI (m / 2 ^ i % 2) = 1 from fun q => hb ((nI_eq (by omega) (b := 1) (by decide)).mp q)), Option.bind_some, if_pos rfl]
      refine ⟨_, rfl, ?_, ?_, rfl, e3, e4⟩
      · show _ = (if m / 2 ^ i % 2 = 1 then _ else _ : Int32 × Int32).1
        rw [if_neg hb]
      · show _ = (if m / 2 ^ i % 2 = 1 then _ else _ : Int32 × Int32).2
        rw [if_neg hb]) (by
    rintro ⟨z0, z1, z2, K⟩ ⟨e0, e1, e2, e3, e4⟩
    dsimp only at e0 e1 e2 e3 e4
    subst e0 e1 e2
    unfold s_X10_spread_11
    simp only [zE_gC, zE_rh b, zE_gH b, zw_g_t, e3.1.1, if_pos (nI_le (Nat.le_refl H.ns) (by omega))]
    exact ⟨_, rfl, rfl, rfl, e3, e4⟩) 0 (0, 12000, 0, I) (Nat.zero_le _) (by omega) ⟨rfl, rfl, rfl, hB, fun _ _ _ => rfl⟩
  unfold f_X10_spread
  obtain ⟨r1, r2, r3⟩ := r
  dsimp only at l2
  rw [l1, ← l2.1, ← l2.2.1]
  exact ⟨_, rfl, l2.2.2.1, l2.2.2.2⟩
theorem zq_spreadM {b : Bool} {I : zI} {H : zq_H} (hK : zq_HK H) (hM : zq_HM b I H) {c co m : Nat} {v3 v4 : Int32} (hc : c < H.nc) (hco : co < 4) (hm : m < 16) : ∃ I2, zw_it (s_X11_next_68 148 (nI m) v3 v4 (nI c) (nI co) (zE_R b)) 1000000 (-1, -1, 0, I) = some ((zq_sm H c co m H.ns).1, (zq_sm H c co m H.ns).2, I2) ∧ zq_HM b I2 H ∧ zq_fM I2 I := by
  have k1 := hK.1
  have hl := zq_lv1 b
  obtain ⟨r, l1, l2⟩ := zE_for (step := s_X11_next_68 148 (nI m) v3 v4 (nI c) (nI co) (zE_R b)) (fun i z => z.1 = (zq_sm H c co m i).1 ∧ z.2.1 = (zq_sm H c co m i).2 ∧ z.2.2.1 = nI i ∧ zq_HM b z.2.2.2 H ∧ zq_fM z.2.2.2 I) (fun r => r.1 = (zq_sm H c co m H.ns).1 ∧ r.2.1 = (zq_sm H c co m H.ns).2 ∧ zq_HM b r.2.2 H ∧ zq_fM r.2.2 I) H.ns (by
    rintro i ⟨z0, z1, z2, K⟩ hi ⟨e0, e1, e2, e3, e4⟩
    dsimp only at e0 e1 e2 e3 e4
    subst e0 e1 e2
    obtain ⟨I1, c1, c2, c3⟩ := zq_brM hK e3 hc hi hco
    unfold s_X11_next_68 j_X11_next_118_68 j_X11_next_122_68 j_X11_next_133_68
    simp only [zE_gM, zE_rM b, zE_sM, zw_g_t, zw_let_e, e3.1, zE_in (k := zq_lv b) (n := 2) hl (by decide), zE_cl (k := zq_lv b) (by omega), e3.2.1, if_neg (nI_ge hi (by omega)), zq_bit i (by omega) m hm, c1, Option.bind_some, nI_1]
    refine Or.inl ?_
    by_cases hb : m / 2 ^ i % 2 = 1
    · rw [hb, if_pos (show ¬ nI 1 = 0 by decide)]
      have fin : ∀ x : Int32, x = (zq_sm H c co m (i + 1)).1 → ∃ t, (if zq_br H c i co ≤ (zq_sm H c co m i).2 then some (.inl (x, (zq_sm H c co m i).2, nI (i + 1), I1)) else some (.inl (x, zq_br H c i co, nI (i + 1), I1)) : Option ((Int32 × Int32 × Int32 × zI) ⊕ (Int32 × Int32 × zI))) = some (.inl t) ∧ t.1 = (zq_sm H c co m (i + 1)).1 ∧ t.2.1 = (zq_sm H c co m (i + 1)).2 ∧ t.2.2.1 = nI (i + 1) ∧ zq_HM b t.2.2.2 H ∧ zq_fM t.2.2.2 I := by
        intro x hx
        have e5 : (zq_sm H c co m (i + 1)).2 = if zq_br H c i co ≤ (zq_sm H c co m i).2 then (zq_sm H c co m i).2 else zq_br H c i co := by
          show (if m / 2 ^ i % 2 = 1 then _ else _ : Int32 × Int32).2 = _
          rw [if_pos hb]
        rw [e5]
        by_cases h6 : zq_br H c i co ≤ (zq_sm H c co m i).2
        · rw [if_pos h6, if_pos h6]; exact ⟨_, rfl, hx, rfl, rfl, c2, c3.tr e4⟩
        · rw [if_neg h6, if_neg h6]; exact ⟨_, rfl, hx, rfl, rfl, c2, c3.tr e4⟩
      have e7 : (zq_sm H c co m (i + 1)).1 = if (zq_sm H c co m i).1 < 0 then zq_br H c i co else if (zq_sm H c co m i).1 ≤ zq_br H c i co then (zq_sm H c co m i).1 else zq_br H c i co := by
        show (if m / 2 ^ i % 2 = 1 then _ else _ : Int32 × Int32).1 = _
        rw [if_pos hb]
      by_cases h8 : (zq_sm H c co m i).1 < 0
      · rw [if_pos h8]; exact fin _ (by rw [e7, if_pos h8])
      · rw [if_neg h8]
        by_cases h9 : (zq_sm H c co m i).1 ≤ zq_br H c i co
        · rw [if_pos h9]; exact fin _ (by rw [e7, if_neg h8, if_pos h9])
        · rw [if_neg h9]; exact fin _ (by rw [e7, if_neg h8, if_neg h9])
    · have h0 : m / 2 ^ i % 2 = 0 := by omega
      rw [h0, if_neg (show ¬ ¬ nI 0 = 0 by decide)]
      refine ⟨_, rfl, ?_, ?_, rfl, e3, e4⟩
      · show _ = (if m / 2 ^ i % 2 = 1 then _ else _ : Int32 × Int32).1
        rw [if_neg hb]
      · show _ = (if m / 2 ^ i % 2 = 1 then _ else _ : Int32 × Int32).2
        rw [if_neg hb]) (by
    rintro ⟨z0, z1, z2, K⟩ ⟨e0, e1, e2, e3, e4⟩
    dsimp only at e0 e1 e2 e3 e4
    subst e0 e1 e2
    unfold s_X11_next_68
    simp only [zE_gM, zE_rM b, zE_sM, zw_g_t, e3.1, zE_in (k := zq_lv b) (n := 2) hl (by decide), zE_cl (k := zq_lv b) (by omega), e3.2.1, if_pos (nI_le (Nat.le_refl H.ns) (by omega))]
    exact ⟨_, rfl, rfl, rfl, e3, e4⟩) 0 (-1, -1, 0, I) (Nat.zero_le _) (by omega) ⟨rfl, rfl, rfl, hM, zq_fM.rf I⟩
  obtain ⟨r1, r2, r3⟩ := r
  dsimp only at l2
  rw [l1, ← l2.1, ← l2.2.1]
  exact ⟨_, rfl, l2.2.2.1, l2.2.2.2⟩
/-- the best of the first i -/
def zq_ap (H : zq_H) (m i : Nat) : Int32 := (zq_sg H (i / 4) (i % 4) m H.ns).1 - (zq_sg H (i / 4) (i % 4) m H.ns).2
def zq_nx (H : zq_H) (m : Nat) : Nat → Int32 × Int32
  | 0 => (-2, -1)
  | i + 1 => if zq_ap H m i ≤ (zq_nx H m i).2 then zq_nx H m i else (nI i, zq_ap H m i)
theorem zq_apM {H : zq_H} (hK : zq_HK H) {m i : Nat} (hi : i / 4 < H.nc) (hm : ∃ s, s < H.ns ∧ m / 2 ^ s % 2 = 1) : (zq_sm H (i / 4) (i % 4) m H.ns).2 - (zq_sm H (i / 4) (i % 4) m H.ns).1 = zq_ap H m i := by
  unfold zq_ap
  rcases zq_spE hK (co := i % 4) (m := m) hi H.ns with ⟨h1, -, -⟩ | ⟨-, g, l, -, -, h1, h2⟩
  · obtain ⟨s, h2, h3⟩ := hm
    exact absurd h3 (h1 s h2)
  · rw [h1, h2]
theorem zq_nextC {b : Bool} {I : zI} {H : zq_H} (hK : zq_HK H) (hB : zq_BC b I H) {m : Nat} (hm : m < 16) : ∃ I2, zw_it (s_X10_next_39 1 (nI m) (zE_R b)) 1000000 (-2, -1, 0, I) = some ((zq_nx H m (H.nc * 4)).1, I2) ∧ zq_BC b I2 H ∧ zq_fC I2 I := by
  have k2 := hK.2.1
  obtain ⟨r, l1, l2⟩ := zE_for (step := s_X10_next_39 1 (nI m) (zE_R b)) (fun i z => z.1 = (zq_nx H m i).1 ∧ z.2.1 = (zq_nx H m i).2 ∧ z.2.2.1 = nI i ∧ zq_BC b z.2.2.2 H ∧ zq_fC z.2.2.2 I) (fun r => r.1 = (zq_nx H m (H.nc * 4)).1 ∧ zq_BC b r.2 H ∧ zq_fC r.2 I) (H.nc * 4) (by
    rintro i ⟨z0, z1, z2, K⟩ hi ⟨e0, e1, e2, e3, e4⟩
    dsimp only at e0 e1 e2 e3 e4
    subst e0 e1 e2
    have d1 : nI i / 4 = nI (i / 4) := pk_div (d := 4) (by omega) (by decide) (by decide)
    have d2 : nI i - nI (i / 4) * 4 = nI (i % 4) := by rw [← d1]; exact pk_rem (d := 4) (by omega) (by decide) (by decide)
    obtain ⟨I1, c1, c2, c3⟩ := zq_spreadC hK e3 (c := i / 4) (co := i % 4) (by omega) (by omega) hm
    unfold s_X10_next_39 j_X10_next_82_39
    simp only [zE_gC, zE_rh b, zE_gH b, zw_g_t, zw_let_e, e3.1.2.1, show nI H.nc * 4 = nI (H.nc * 4) from pk_mul H.nc 4, if_neg (nI_ge hi (by omega)), d1, d2, c1, Option.bind_some, nI_1]
    refine Or.inl ?_
    by_cases h5 : zq_ap H m i ≤ (zq_nx H m i).2
    · rw [if_pos (show (zq_sg H (i / 4) (i % 4) m H.ns).1 - (zq_sg H (i / 4) (i % 4) m H.ns).2 ≤ _ from h5)]
      refine ⟨_, rfl, ?_, ?_, rfl, c2, c3.tr e4⟩
      · show _ = (if zq_ap H m i ≤ (zq_nx H m i).2 then _ else _ : Int32 × Int32).1
        rw [if_pos h5]
      · show _ = (if zq_ap H m i ≤ (zq_nx H m i).2 then _ else _ : Int32 × Int32).2
        rw [if_pos h5]
    · rw [if_neg (show ¬ (zq_sg H (i / 4) (i % 4) m H.ns).1 - (zq_sg H (i / 4) (i % 4) m H.ns).2 ≤ _ from h5)]
      refine ⟨_, rfl, ?_, ?_, rfl, c2, c3.tr e4⟩
      · show _ = (if zq_ap H m i ≤ (zq_nx H m i).2 then _ else _ : Int32 × Int32).1
        rw [if_neg h5]
      · show _ = (if zq_ap H m i ≤ (zq_nx H m i).2 then _ else _ : Int32 × Int32).2
        rw [if_neg h5]; rfl) (by
    rintro ⟨z0, z1, z2, K⟩ ⟨e0, e1, e2, e3, e4⟩
    dsimp only at e0 e1 e2 e3 e4
    subst e0 e1 e2
    unfold s_X10_next_39
    simp only [zE_gC, zE_rh b, zE_gH b, zw_g_t, e3.1.2.1, show nI H.nc * 4 = nI (H.nc * 4) from pk_mul H.nc 4, if_pos (nI_le (Nat.le_refl (H.nc * 4)) (by omega))]
    exact ⟨_, rfl, rfl, e3, e4⟩) 0 (-2, -1, 0, I) (Nat.zero_le _) (by omega) ⟨rfl, rfl, rfl, hB, fun _ _ _ => rfl⟩
  obtain ⟨r1, r2⟩ := r
  dsimp only at l2
  rw [l1, ← l2.1]
  exact ⟨_, rfl, l2.2.1, l2.2.2⟩
theorem zq_nextM {b : Bool} {I : zI} {H : zq_H} (hK : zq_HK H) (hM : zq_HM b I H) {m : Nat} (hm : m < 16) (hs : ∃ s, s < H.ns ∧ m / 2 ^ s % 2 = 1) : ∃ I2, zw_it (s_X11_next_36 148 (nI m) (zE_R b)) 1000000 (-2, -1, 0, I) = some ((zq_nx H m (H.nc * 4)).1, I2) ∧ zq_HM b I2 H ∧ zq_fM I2 I := by
  have k2 := hK.2.1
  have hl := zq_lv1 b
  have inner : ∀ c, c < H.nc → ∀ K, zq_HM b K H → zq_fM K I → ∃ I2, zw_it (s_X11_next_53 148 (nI m) (nI c) (zE_R b)) 1000000 ((zq_nx H m (c * 4)).1, (zq_nx H m (c * 4)).2, 0, K) = some ((zq_nx H m (c * 4 + 4)).1, (zq_nx H m (c * 4 + 4)).2, I2) ∧ zq_HM b I2 H ∧ zq_fM I2 I := by
    intro c hc K hK1 hK2
    obtain ⟨r, l1, l2⟩ := zE_for (step := s_X11_next_53 148 (nI m) (nI c) (zE_R b)) (fun i z => z.1 = (zq_nx H m (c * 4 + i)).1 ∧ z.2.1 = (zq_nx H m (c * 4 + i)).2 ∧ z.2.2.1 = nI i ∧ zq_HM b z.2.2.2 H ∧ zq_fM z.2.2.2 I) (fun r => r.1 = (zq_nx H m (c * 4 + 4)).1 ∧ r.2.1 = (zq_nx H m (c * 4 + 4)).2 ∧ zq_HM b r.2.2 H ∧ zq_fM r.2.2 I) 4 (by
      rintro i ⟨z0, z1, z2, K⟩ hi ⟨e0, e1, e2, e3, e4⟩
      dsimp only at e0 e1 e2 e3 e4
      subst e0 e1 e2
      obtain ⟨I1, c1, c2, c3⟩ := zq_spreadM hK e3 (c := c) (co := i) (m := m) (v3 := (zq_nx H m (c * 4 + i)).1) (v4 := (zq_nx H m (c * 4 + i)).2) hc hi hm
      have hap := zq_apM hK (m := m) (i := c * 4 + i) (by omega) hs
      rw [show (c * 4 + i) / 4 = c by omega, show (c * 4 + i) % 4 = i by omega] at hap
      have e9 : 4 * nI c + nI i = nI (c * 4 + i) := by rw [show (4 : Int32) = nI 4 from rfl, pk_mul, nI_add, Nat.mul_comm]
      unfold s_X11_next_53 j_X11_next_167_53
      simp only [if_neg (show ¬ (4 : Int32) ≤ nI i from nI_ge (b := 4) hi (by decide)), c1, Option.bind_some, zw_let_e, hap, e9, nI_1]
      refine Or.inl ?_
      by_cases h5 : zq_ap H m (c * 4 + i) ≤ (zq_nx H m (c * 4 + i)).2
      · have h6 : ¬ (zq_nx H m (c * 4 + i)).2 < zq_ap H m (c * 4 + i) := by
          rw [Int32.le_iff_toInt_le] at h5
          rw [Int32.lt_iff_toInt_lt]; omega
        rw [if_neg h6]
        refine ⟨_, rfl, ?_, ?_, rfl, c2, c3.tr e4⟩
        · show _ = (if zq_ap H m (c * 4 + i) ≤ (zq_nx H m (c * 4 + i)).2 then _ else _ : Int32 × Int32).1
          rw [if_pos h5]
          rfl
        · show _ = (if zq_ap H m (c * 4 + i) ≤ (zq_nx H m (c * 4 + i)).2 then _ else _ : Int32 × Int32).2
          rw [if_pos h5]
          rfl
      · have h6 : (zq_nx H m (c * 4 + i)).2 < zq_ap H m (c * 4 + i) := by
          rw [Int32.le_iff_toInt_le] at h5
          rw [Int32.lt_iff_toInt_lt]; omega
        rw [if_pos h6]
        refine ⟨_, rfl, ?_, ?_, rfl, c2, c3.tr e4⟩
        · show _ = (if zq_ap H m (c * 4 + i) ≤ (zq_nx H m (c * 4 + i)).2 then _ else _ : Int32 × Int32).1
          rw [if_neg h5]
          rfl
        · show _ = (if zq_ap H m (c * 4 + i) ≤ (zq_nx H m (c * 4 + i)).2 then _ else _ : Int32 × Int32).2
          rw [if_neg h5]
          rfl) (by
      rintro ⟨z0, z1, z2, K⟩ ⟨e0, e1, e2, e3, e4⟩
      dsimp only at e0 e1 e2 e3 e4
      subst e0 e1 e2
      unfold s_X11_next_53
      rw [if_pos (show (4 : Int32) ≤ nI 4 by decide)]
      exact ⟨_, rfl, rfl, rfl, e3, e4⟩) 0 ((zq_nx H m (c * 4)).1, (zq_nx H m (c * 4)).2, 0, K) (Nat.zero_le _) (by omega) ⟨rfl, rfl, rfl, hK1, hK2⟩
    obtain ⟨r1, r2, r3⟩ := r
    dsimp only at l2
    rw [l1, ← l2.1, ← l2.2.1]
    exact ⟨_, rfl, l2.2.2.1, l2.2.2.2⟩
  obtain ⟨r, l1, l2⟩ := zE_for (step := s_X11_next_36 148 (nI m) (zE_R b)) (fun i z => z.1 = (zq_nx H m (i * 4)).1 ∧ z.2.1 = (zq_nx H m (i * 4)).2 ∧ z.2.2.1 = nI i ∧ zq_HM b z.2.2.2 H ∧ zq_fM z.2.2.2 I) (fun r => r.1 = (zq_nx H m (H.nc * 4)).1 ∧ zq_HM b r.2 H ∧ zq_fM r.2 I) H.nc (by
    rintro i ⟨z0, z1, z2, K⟩ hi ⟨e0, e1, e2, e3, e4⟩
    dsimp only at e0 e1 e2 e3 e4
    subst e0 e1 e2
    obtain ⟨I1, c1, c2, c3⟩ := inner i hi K e3 e4
    unfold s_X11_next_36
    simp only [zE_gM, zE_rM b, zE_sM, zw_g_t, zw_let_e, e3.1, zE_in (k := zq_lv b) (n := 2) hl (by decide), zE_cl (k := zq_lv b) (by omega), e3.2.2.1, if_neg (nI_ge hi (by omega)), c1, Option.bind_some, nI_1]
    refine Or.inl ⟨_, rfl, ?_, ?_, rfl, c2, c3⟩
    · rw [show (i + 1) * 4 = i * 4 + 4 by omega]
    · rw [show (i + 1) * 4 = i * 4 + 4 by omega]) (by
    rintro ⟨z0, z1, z2, K⟩ ⟨e0, e1, e2, e3, e4⟩
    dsimp only at e0 e1 e2 e3 e4
    subst e0 e1 e2
    unfold s_X11_next_36
    simp only [zE_gM, zE_rM b, zE_sM, zw_g_t, e3.1, zE_in (k := zq_lv b) (n := 2) hl (by decide), zE_cl (k := zq_lv b) (by omega), e3.2.2.1, if_pos (nI_le (Nat.le_refl H.nc) (by omega))]
    exact ⟨_, rfl, rfl, e3, e4⟩) 0 (-2, -1, 0, I) (Nat.zero_le _) (by omega) ⟨rfl, rfl, rfl, hM, zq_fM.rf I⟩
  obtain ⟨r1, r2⟩ := r
  dsimp only at l2
  rw [l1, ← l2.1]
  exact ⟨_, rfl, l2.2.1, l2.2.2⟩
/-- next -/
theorem zq_nextE {b : Bool} {I : zI} {H : zq_H} {nt : Nat} (hK : zq_HK H) (hB : zq_BC b I H) (hM : zq_HM b I H) (hU : zq_TE I nt H) (v : Int32) : ∃ r I1 I2, f_X10_next 1 v I (zE_R b) = some (r, I1) ∧ f_X11_next 148 v I1 (zE_R b) = some (r, I2) ∧ zq_BC b I2 H ∧ zq_HM b I2 H ∧ zq_oBr I2 I := by
  have k1 := hK.1
  unfold f_X10_next
  simp only [zE_gC, zE_rC b, zw_g_t]
  rcases zq_known hU v with ⟨h3, h4⟩ | ⟨n, hn, rfl, h3, h4⟩
  · rw [h3]
    refine ⟨_, _, _, rfl, ?_, hB, hM, ⟨fun _ _ _ _ _ _ => rfl, fun _ _ => rfl⟩⟩
    unfold f_X11_next
    simp only [zE_gM, zw_g_t, h4]
    rfl
  rw [h3, Option.bind_some, if_pos zE_10]
  obtain ⟨I1, c1, c2, c3⟩ := zq_openC hK hB hU hn
  have hm16 := zq_om16 (I := I) (H := H) (n := n) k1
  obtain ⟨bc, b1, b2⟩ := zq_two (zq_om I H n H.ns) hm16
  rw [c1, Option.bind_some]
  dsimp only
  rw [b1, Option.bind_some]
  by_cases h2 : 2 ≤ bc
  · rw [if_pos h2]
    have h2b := b2.mp h2
    obtain ⟨J1, d1, d2, d3⟩ := zq_nextC hK c2 hm16
    have hc3 : zq_fC J1 I := d3.tr c3
    have hM1 := zq_HM_C hM hc3
    have ht : ∀ a, 142 ≤ a → a ≤ 146 → J1 a = I a := fun a h1 h2 => hc3 a (by omega) (by omega)
    have hU1 : zq_TE J1 nt H := zq_TE_tr hU ht (fun a h1 h2 => hc3 a (by omega) (by omega)) (by rw [hc3 148 (by omega) (by omega)])
    obtain ⟨I2, m1, m2, m3⟩ := zq_openM hK hM1 hU1 hn
    rw [zq_om_tr ht] at m1
    obtain ⟨J2, w1, w2, w3⟩ := zq_nextM hK m2 hm16 (zq_some H.ns (by omega) _ hm16 (zq_om_lt I H n H.ns) h2b)
    rw [d1]
    refine ⟨_, _, J2, rfl, ?_, zq_BC_M hK d2 (fun a ha => (w3.tr m3).1 a (by omega) (by omega) (by omega)), w2, zq_oBr.of hc3 (w3.tr m3)⟩
    unfold f_X11_next
    simp only [zE_gM, zw_g_t, (zq_known1 (I1 := I) hU1 hn).1, Option.bind_some, if_pos zE_10, m1, if_pos h2b, w1]
  · rw [if_neg h2]
    have h2b : ¬ ¬ nI (zq_om I H n H.ns) &&& (nI (zq_om I H n H.ns) - 1) = 0 := fun q => h2 (b2.mpr q)
    have hM1 := zq_HM_C hM c3
    have ht : ∀ a, 142 ≤ a → a ≤ 146 → I1 a = I a := fun a h1 h2 => c3 a (by omega) (by omega)
    have hU1 : zq_TE I1 nt H := zq_TE_tr hU ht (fun a h1 h2 => c3 a (by omega) (by omega)) (by rw [c3 148 (by omega) (by omega)])
    obtain ⟨I2, m1, m2, m3⟩ := zq_openM hK hM1 hU1 hn
    rw [zq_om_tr ht] at m1
    refine ⟨_, _, I2, rfl, ?_, zq_BC_M hK c2 (fun a ha => m3.1 a (by omega) (by omega) (by omega)), m2, zq_oBr.of c3 m3⟩
    unfold f_X11_next
    simp only [zE_gM, zw_g_t, (zq_known1 (I1 := I) hU1 hn).1, Option.bind_some, if_pos zE_10, m1, if_neg h2b]
