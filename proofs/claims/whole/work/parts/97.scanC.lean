/-! ===== the class cuts a text into tokens ===== -/
def zt_TC (I : zI) (T : Nat → Nat) (n : Nat) : Prop := n ≤ 2000 ∧ I 2 1 = nI n ∧ ∀ j, j < n → I 3 j &&& 255 = nI (T j) ∧ T j < 256
theorem zt_TC_tr {I2 I : zI} {T : Nat → Nat} {n : Nat} (h : zt_TC I T n) (h2 : I2 2 = I 2) (h3 : I2 3 = I 3) : zt_TC I2 T n := by
  unfold zt_TC
  rw [h2, h3]
  exact h
theorem zt_byC {sw : Bool} {I : zI} {T : Nat → Nat} {n : Nat} (h : zt_TC I T n) {a : Nat} (ha : a < 2 ^ 31) : f_X8_byteAt 2 (nI a) I (zE_R sw) = some (if a < n then nI (T a) else -1) := by
  obtain ⟨h1, h2, h3⟩ := h
  unfold f_X8_byteAt
  simp only [zE_gC, zE_rC sw, zE_sC, zw_g_t, h2, if_neg (nI_pos ha)]
  by_cases c : a < n
  · rw [if_neg (nI_ge c (by omega)), zE_in (show a < 2000 by omega) (by decide), zw_g_t, zE_cl ha, (h3 a c).1, if_pos c]
  · rw [if_pos (nI_le (show n ≤ a by omega) ha), if_neg c]
/-- a loop that runs on while P takes the byte -/
theorem zt_runL {step : Int32 → Option (Int32 ⊕ Int32)} {P : Nat → Bool} {T : Nat → Nat} {n : Nat} (hn : n ≤ 2000) (h1 : ∀ i, i < n → P (T i) = true → step (nI i) = some (.inl (nI (i + 1)))) (h2 : ∀ i, i < n → P (T i) = false → step (nI i) = some (.inr (nI i))) (h3 : step (nI n) = some (.inr (nI n))) {a : Nat} (ha : a ≤ n) : zw_it step 1000000 (nI a) = some (nI (zt_r P T n a)) := by
  obtain ⟨r, q1, q2⟩ := zE_for (step := step) (fun i s => s = nI i ∧ zt_r P T n i = zt_r P T n a) (fun r => r = nI (zt_r P T n a)) n (by
    rintro i s hi ⟨rfl, e⟩
    cases hp : P (T i)
    · refine Or.inr ⟨_, h2 i hi hp, ?_⟩
      rw [← e, zt_r_end (fun r => by rw [hp] at r; exact absurd r.2 (by decide))]
    · exact Or.inl ⟨_, h1 i hi hp, rfl, by rw [← e, zt_r_go hi hp]⟩) (by
    rintro s ⟨rfl, e⟩
    exact ⟨_, h3, by rw [← e, zt_r_end (fun r => by omega)]⟩) a (nI a) ha (by omega) ⟨rfl, rfl⟩
  rw [q1, q2]
theorem zt_blanksC {sw : Bool} {I : zI} {T : Nat → Nat} {n a : Nat} (h : zt_TC I T n) (ha : a ≤ n) : f_X8_pastBlanks 2 (nI a) I (zE_R sw) = some (nI (zt_r zt_B T n a)) := by
  have hn := h.1
  unfold f_X8_pastBlanks
  have go := zt_runL (step := s_X8_pastBlanks_2 2 I (zE_R sw)) (P := zt_B) (T := T) (n := n) h.1 (fun i hi hp => by
    unfold s_X8_pastBlanks_2
    simp only [zE_gC, zw_g_t, h.2.1, if_neg (nI_ge hi (by omega)), zt_byC (sw := sw) h (show i < 2 ^ 31 by omega), if_pos hi, Option.bind_some, (zt_b1 (T i) (h.2.2 i hi).2).2.2.2.2.1, hp, zw_let_e, nI_1]
    rfl) (fun i hi hp => by
    unfold s_X8_pastBlanks_2
    simp only [zE_gC, zw_g_t, h.2.1, if_neg (nI_ge hi (by omega)), zt_byC (sw := sw) h (show i < 2 ^ 31 by omega), if_pos hi, Option.bind_some, (zt_b1 (T i) (h.2.2 i hi).2).2.2.2.2.1, hp, zw_let_e, nI_1]
    rfl) (by
    unfold s_X8_pastBlanks_2
    simp only [zE_gC, zw_g_t, h.2.1, if_pos (nI_le (Nat.le_refl n) (by omega))]) ha
  rw [go, Option.bind_some]
/-- what a token leaves: kinds at i, values at i -/
def zt_o (i : Nat) (I2 I : zI) (J2 J : zJ) (k : Nat) (v : Int64) : Prop := (∀ x, x ≠ 4 → I2 x = I x) ∧ (∀ y, y ≠ i → I2 4 y = I 4 y) ∧ I2 4 i = nI k ∧ (∀ x, x ≠ 6 → J2 x = J x) ∧ (∀ y, y ≠ i → J2 6 y = J 6 y) ∧ J2 6 i = v
/-! words -/
def zt_tc (s k : Nat) : Nat := if k < (zt_kw s).length then 96 + (zt_kw s).getD ((zt_kw s).length - 1 - k) 0 else 32
theorem zt_ch : ∀ s, s < 18 → ∀ k, k < 8 → f_J0_charAt_5068e 0 (nI (s * 8 + k)) = some (nI (zt_tc s k)) := by decide +kernel
theorem zt_ln : f_J0_length_8abf5 0 = some 144 := by decide +kernel
theorem zt_kw7 : ∀ s, s < 18 → (zt_kw s).length ≤ 7 ∧ 2 ≤ (zt_kw s).length ∧ ∀ k, k < (zt_kw s).length → 1 ≤ (zt_kw s).getD k 0 ∧ (zt_kw s).getD k 0 ≤ 26 := by decide +kernel
def zt_pd (T : Nat → Nat) (a len k : Nat) : Nat := if k < len then T (a + k) else 32
theorem zt_mt_k {T : Nat → Nat} {a : Nat} : ∀ {l : List Nat}, zt_mt T a l ↔ ∀ k, k < l.length → T (a + k) - 96 = l.getD (l.length - 1 - k) 0
  | [] => ⟨fun _ k hk => absurd hk (Nat.not_lt_zero k), fun _ => trivial⟩
  | d :: l => by
    show (T (a + l.length) - 96 = d ∧ zt_mt T a l) ↔ ∀ k, k < l.length + 1 → T (a + k) - 96 = (d :: l).getD (l.length + 1 - 1 - k) 0
    rw [zt_mt_k]
    constructor
    · rintro ⟨h1, h2⟩ k hk
      by_cases e : k = l.length
      · subst e
        rw [show l.length + 1 - 1 - l.length = 0 by omega, h1]
        rfl
      · rw [show l.length + 1 - 1 - k = (l.length - 1 - k) + 1 by omega, h2 k (by omega)]
        rfl
    · intro h
      refine ⟨?_, fun k hk => ?_⟩
      · have := h l.length (by omega)
        rw [show l.length + 1 - 1 - l.length = 0 by omega] at this
        exact this
      · have := h k (by omega)
        rw [show l.length + 1 - 1 - k = (l.length - 1 - k) + 1 by omega] at this
        exact this
theorem zt_same {T : Nat → Nat} {a len s : Nat} (hs : s < 18) (hl : len ≤ 8) (hT : ∀ j, a ≤ j → j < a + len → zt_L (T j) = true) : (∀ k, k < 8 → zt_tc s k = zt_pd T a len k) ↔ zt_rl T a len = zt_kw s := by
  obtain ⟨m7, m2, hd⟩ := zt_kw7 s hs
  have hL : ∀ k, k < len → 97 ≤ T (a + k) ∧ T (a + k) ≤ 122 := fun k hk => by
    have := hT (a + k) (by omega) (by omega)
    unfold zt_L at this
    exact of_decide_eq_true this
  constructor
  · intro h
    have e : len = (zt_kw s).length := by
      rcases Nat.lt_trichotomy len (zt_kw s).length with c | c | c
      · have h1 := h len (by omega)
        unfold zt_tc zt_pd at h1
        rw [if_pos c, if_neg (Nat.lt_irrefl _)] at h1
        have := (hd ((zt_kw s).length - 1 - len) (by omega)).1
        omega
      · exact c
      · have h1 := h (zt_kw s).length (by omega)
        unfold zt_tc zt_pd at h1
        rw [if_neg (Nat.lt_irrefl _), if_pos c] at h1
        have := hL _ c
        omega
    rw [e]
    refine zt_mt_rl.mp (zt_mt_k.mpr (fun k hk => ?_))
    have h1 := h k (by omega)
    unfold zt_tc zt_pd at h1
    rw [if_pos hk, if_pos (by omega)] at h1
    omega
  · intro h k hk
    have e : len = (zt_kw s).length := by rw [← h, zt_rl_len]
    rw [e] at h
    have h1 := zt_mt_k.mp (zt_mt_rl.mpr h)
    unfold zt_tc zt_pd
    by_cases c : k < (zt_kw s).length
    · rw [if_pos c, if_pos (by omega)]
      have := h1 k c
      have := hL k (by omega)
      omega
    · rw [if_neg c, if_neg (by omega)]
theorem zt_kf_none {w : List Nat} : ∀ {f s : Nat}, (∀ j, s ≤ j → j < s + f → w ≠ zt_kw j) → zt_kf w f s = 2
  | 0, _, _ => rfl
  | f + 1, s, h => by
    unfold zt_kf
    rw [if_neg (h s (by omega) (by omega))]
    exact zt_kf_none (fun j h1 h2 => h j (by omega) (by omega))
theorem zt_kf_some {w : List Nat} {g : Nat} : ∀ {f s : Nat}, s ≤ g → g < s + f → w = zt_kw g → (∀ j, s ≤ j → j < g → w ≠ zt_kw j) → zt_kf w f s = 18 + g
  | 0, s, h1, h2, _, _ => by omega
  | f + 1, s, h1, h2, h3, h4 => by
    unfold zt_kf
    by_cases e : s = g
    · subst e; rw [if_pos h3]
    · rw [if_neg (h4 s (by omega) (by omega))]
      exact zt_kf_some (by omega) (by omega) h3 (fun j q1 q2 => h4 j (by omega) q2)
theorem zt_tc256 : ∀ s, s < 18 → ∀ k, k < 8 → zt_tc s k < 256 := by decide +kernel
theorem zt_wordC {sw : Bool} {I : zI} {T : Nat → Nat} {n a len : Nat} (h : zt_TC I T n) (hl : len ≤ 8) (ha : a + len ≤ n) (hT : ∀ j, a ≤ j → j < a + len → zt_L (T j) = true) : f_X8_wordKind 2 (nI a) (nI (a + len)) I (zE_R sw) = some (nI (zt_wk (zt_rl T a len))) := by
  have hn := h.1
  have pd256 : ∀ k, zt_pd T a len k < 256 := fun k => by
    unfold zt_pd
    by_cases c : k < len
    · rw [if_pos c]; exact (h.2.2 (a + k) (by omega)).2
    · rw [if_neg c]; decide
  have inner : ∀ s, s < 18 → ∃ r, zw_it (s_X8_wordKind_20 2 (nI a) (nI (a + len)) (nI s) I (zE_R sw)) 1000000 (0, 0) = some r ∧ ((r = nI 8 ∧ ∀ j, j < 8 → zt_tc s j = zt_pd T a len j) ∨ ∃ g, g < 8 ∧ r = nI g ∧ ¬ zt_tc s g = zt_pd T a len g) := by
    intro s hs
    refine zE_for (step := s_X8_wordKind_20 2 (nI a) (nI (a + len)) (nI s) I (zE_R sw)) (fun k z => (z = (nI k, nI k) ∧ ∀ j, j < k → zt_tc s j = zt_pd T a len j) ∨ ∃ g, g < k ∧ z = (nI g, nI k) ∧ ¬ zt_tc s g = zt_pd T a len g) _ 8 ?_ ?_ 0 (0, 0) (by decide) (by decide) (Or.inl ⟨rfl, fun j hj => by omega⟩)
    · rintro k z hk (⟨rfl, e⟩ | ⟨g, hg, rfl, e⟩)
      · have ech : f_J0_charAt_5068e 0 (nI s * 8 + nI k) = some (nI (zt_tc s k)) := by
          rw [show (8 : Int32) = nI 8 from rfl, pk_mul, nI_add]
          exact zt_ch s hs k hk
        have j55 : ∀ v : Nat, v < 256 → j_X8_wordKind_55_20 2 (nI a) (nI (a + len)) (nI s) (nI k) (nI k) (nI v) I (zE_R sw) = some (.inl (if zt_tc s k = v then nI (k + 1) else nI k, nI (k + 1))) := by
          intro v hv
          unfold j_X8_wordKind_55_20 j_X8_wordKind_77_20
          have h256 := zt_tc256 s hs k hk
          rw [show zw_g (decide (0 < 3)) = fun (x : Option ((Int32 × Int32) ⊕ Int32)) => x from rfl]
          simp only [ech, Option.bind_some, zw_let_e, nI_1]
          by_cases c : zt_tc s k = v
          · rw [if_neg (fun r => r (by rw [c])), if_pos c]
          · rw [if_pos (zr_ne c (by omega) (by omega)), if_neg c]
        have st : s_X8_wordKind_20 2 (nI a) (nI (a + len)) (nI s) I (zE_R sw) (nI k, nI k) = some (.inl (if zt_tc s k = zt_pd T a len k then nI (k + 1) else nI k, nI (k + 1))) := by
          unfold s_X8_wordKind_20
          dsimp only
          rw [if_neg (fun r => r rfl), if_neg (show ¬ (8 : Int32) ≤ nI k from nI_ge (b := 8) hk (by decide)), nI_add]
          unfold zt_pd
          by_cases c : k < len
          · rw [if_neg (nI_ge (show a + k < a + len by omega) (by omega)), if_pos c]
            simp only [zE_gC, zw_g_t, zt_byC (sw := sw) h (show a + k < 2 ^ 31 by omega), if_pos (show a + k < n by omega), Option.bind_some]
            exact j55 _ (h.2.2 (a + k) (by omega)).2
          · rw [if_pos (nI_le (show a + len ≤ a + k by omega) (by omega)), if_neg c]
            exact j55 32 (by decide)
        rw [st]
        by_cases c : zt_tc s k = zt_pd T a len k
        · rw [if_pos c]
          refine Or.inl ⟨_, rfl, Or.inl ⟨rfl, fun j hj => ?_⟩⟩
          by_cases e2 : j = k
          · rw [e2]; exact c
          · exact e j (by omega)
        · rw [if_neg c]
          exact Or.inl ⟨_, rfl, Or.inr ⟨k, by omega, rfl, c⟩⟩
      · refine Or.inr ⟨nI g, ?_, Or.inr ⟨g, by omega, rfl, e⟩⟩
        unfold s_X8_wordKind_20
        dsimp only
        rw [if_pos (zr_ne (show g ≠ k by omega) (by omega) (by omega))]
    · rintro z (⟨rfl, e⟩ | ⟨g, hg, rfl, e⟩)
      · refine ⟨nI 8, ?_, Or.inl ⟨rfl, e⟩⟩
        unfold s_X8_wordKind_20
        dsimp only
        rw [if_neg (fun r => r rfl), if_pos (show (8 : Int32) ≤ nI 8 by decide)]
      · refine ⟨nI g, ?_, Or.inr ⟨g, hg, rfl, e⟩⟩
        unfold s_X8_wordKind_20
        dsimp only
        rw [if_pos (zr_ne (show g ≠ 8 by omega) (by omega) (by decide))]
  have go := zE_for (step := s_X8_wordKind_2 2 (nI a) (nI (a + len)) I (zE_R sw)) (fun s z => z = nI s ∧ ∀ j, j < s → zt_rl T a len ≠ zt_kw j) (fun r => (r = .inl () ∧ zt_wk (zt_rl T a len) = 2) ∨ ∃ s, s < 18 ∧ r = .inr (nI s) ∧ zt_wk (zt_rl T a len) = 18 + s) 18 ?_ ?_ 0 0 (by decide) (by decide) ⟨rfl, fun j hj => by omega⟩
  · obtain ⟨r, q1, q2⟩ := go
    unfold f_X8_wordKind
    rw [q1, Option.bind_some]
    rcases q2 with ⟨rfl, q3⟩ | ⟨s, hs, rfl, q3⟩
    · rw [q3]; rfl
    · rw [q3]
      show some (18 + nI s) = some (nI (18 + s))
      rw [show (18 : Int32) = nI 18 from rfl, nI_add]
  · rintro s z hs ⟨rfl, e⟩
    obtain ⟨r, q1, q2⟩ := inner s hs
    have st : s_X8_wordKind_2 2 (nI a) (nI (a + len)) I (zE_R sw) (nI s) = (if ¬ r = 8 then some (.inl (nI (s + 1))) else some (.inr (.inr (nI s)))) := by
      unfold s_X8_wordKind_2 j_X8_wordKind_83_2
      rw [show zw_g (decide (0 < 3)) = fun (x : Option (Int32 ⊕ (Unit ⊕ Int32))) => x from rfl]
      simp only [zt_ln, Option.bind_some, if_neg (show ¬ (144 : Int32) / 8 ≤ nI s from by rw [show (144 : Int32) / 8 = nI 18 by decide]; exact nI_ge hs (by decide)), q1, zw_let_e, nI_1]
    rw [st]
    rcases q2 with ⟨rfl, q3⟩ | ⟨g, hg, rfl, q3⟩
    · rw [if_neg (fun r => r rfl)]
      have e2 := (zt_same hs hl hT).mp q3
      refine Or.inr ⟨_, rfl, Or.inr ⟨s, hs, rfl, ?_⟩⟩
      exact zt_kf_some (by omega) (by omega) e2 (fun j _ hj => e j hj)
    · rw [if_pos (show ¬ nI g = (8 : Int32) from zr_ne (b := 8) (by omega) (by omega) (by decide))]
      refine Or.inl ⟨_, rfl, rfl, fun j hj => ?_⟩
      by_cases e3 : j = s
      · subst e3
        intro e2
        exact q3 ((zt_same hs hl hT).mpr e2 g hg)
      · exact e j (by omega)
  · rintro z ⟨rfl, e⟩
    refine ⟨.inl (), ?_, Or.inl ⟨rfl, zt_kf_none (fun j _ hj => e j (by omega))⟩⟩
    unfold s_X8_wordKind_2
    rw [show zw_g (decide (0 < 3)) = fun (x : Option (Int32 ⊕ (Unit ⊕ Int32))) => x from rfl]
    simp only [zt_ln, Option.bind_some, if_pos (show (144 : Int32) / 8 ≤ nI 18 by decide)]
