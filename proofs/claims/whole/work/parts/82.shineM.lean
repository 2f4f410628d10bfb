/-! ===== the model's SHINE ===== -/
theorem zq_ring3 (g x y n : Int32) : g + (x + y) * n + x + y = g + (x + y) * (n + 1) := by grind
theorem zq_maxM {sw : Bool} {I : zI} {k : Nat} {d : zq_D} {s : Nat → Int32} {v3 : Int32} (hk : k < 20) (ok : zq_ok d) (dm : zq_DM I k d) (hs : ∀ j, j < 12 → I 185 j = s (8 + j)) : zw_it (s_X11_shines_100 148 (nI k) v3 I (zE_R sw)) 1000000 (0, 0) = some (zq_mx s d.w) := by
  have w2 := ok.w2
  have l1 := zE_forE (step := s_X11_shines_100 148 (nI k) v3 I (zE_R sw)) (fun i => (zq_mx s i, nI i)) (zq_mx s d.w) d.w (fun i hi => by
    unfold s_X11_shines_100 j_X11_shines_132_100
    simp only [zE_gM, zE_rM sw, zE_sM, zw_g_t, zw_let_e, zE_in (k := k) (n := 20) hk (by decide), zE_cl (k := k) (by omega), dm.w, zE_in (k := i) (n := 12) (by omega) (by decide), zE_cl (k := i) (by omega), nI_1, hs i (by omega)]
    rw [if_neg (nI_ge hi (by omega))]
    show _ = some (Sum.inl ((if zq_mx s i < s (8 + i) then s (8 + i) else zq_mx s i), nI (i + 1)))
    by_cases c1 : zq_mx s i < s (8 + i)
    · rw [if_pos c1, if_neg (fun q => by
        have a1 := Int32.le_iff_toInt_le.mp q
        have a2 := Int32.lt_iff_toInt_lt.mp c1
        omega)]
    · rw [if_neg c1, if_pos (by
        rw [Int32.lt_iff_toInt_lt] at c1
        rw [Int32.le_iff_toInt_le]
        omega)]) (by
    unfold s_X11_shines_100
    simp only [zE_gM, zE_rM sw, zE_sM, zw_g_t, zE_in (k := k) (n := 20) hk (by decide), zE_cl (k := k) (by omega), dm.w]
    exact if_pos (nI_le (Nat.le_refl _) (by omega))) (by omega)
  exact l1
theorem zq_someM {sw : Bool} {I : zI} {k : Nat} {d : zq_D} {v3 v9 v10 : Int32} (hk : k < 20) (ok : zq_ok d) (dm : zq_DM I k d) (x : Nat) (hx : x < d.w) : zw_it (s_X11_shines_161 148 (nI k) v3 v9 v10 (nI x) I (zE_R sw)) 1000000 (0, 0) = some (if zq_cc d x d.t = true then 1 else 0) := by
  have w2 := ok.w2
  have t2 := ok.t2
  have l1 := zE_forE (step := s_X11_shines_161 148 (nI k) v3 v9 v10 (nI x) I (zE_R sw)) (fun i => ((if zq_cc d x i = true then (1 : Int32) else 0), nI i)) (if zq_cc d x d.t = true then 1 else 0) d.t (fun i hi => by
    have c6 := ok.c6 x i
    unfold s_X11_shines_161 j_X11_shines_189_161 j_X11_shines_194_161
    simp only [zE_gM, zE_rM sw, zE_sM, zw_g_t, zw_let_e, zE_in (k := k) (n := 20) hk (by decide), zE_cl (k := k) (by omega), dm.t, zq_cM hk ok dm, zq_at_in hx hi w2 t2, Option.bind_some, nI_1]
    rw [if_neg (nI_ge hi (by omega))]
    have hcc : (zq_cc d x (i + 1) = true) ↔ (zq_cc d x i = true ∨ d.c x i ≠ 0) := by
      show (zq_cc d x i || decide (d.c x i ≠ 0)) = true ↔ _
      rw [Bool.or_eq_true, decide_eq_true_iff]
    by_cases c1 : zq_cc d x i = true
    · rw [if_pos c1, if_pos zE_10, if_pos (hcc.mpr (Or.inl c1))]
    · rw [if_neg c1, if_neg (fun q => q rfl)]
      by_cases c2 : d.c x i = 0
      · rw [if_pos (show nI (d.c x i) ≤ 0 by rw [c2]; decide), if_neg (fun q => (hcc.mp q).elim c1 (fun r => r c2))]
      · rw [if_neg (nI_nle (n := d.c x i) (by omega) (by omega)), if_pos (hcc.mpr (Or.inr c2))]) (by
    unfold s_X11_shines_161
    simp only [zE_gM, zE_rM sw, zE_sM, zw_g_t, zE_in (k := k) (n := 20) hk (by decide), zE_cl (k := k) (by omega), dm.t]
    exact if_pos (nI_le (Nat.le_refl _) (by omega))) (by omega)
  exact l1
theorem zq_darkM {sw : Bool} {I : zI} {k : Nat} {d : zq_D} {s : Nat → Int32} {v3 : Int32} (hk : k < 20) (ok : zq_ok d) (dm : zq_DM I k d) (hs : ∀ j, j < 12 → I 185 j = s (8 + j)) (hB : zq_SB 10000000 s) : zw_it (s_X11_shines_144 148 (nI k) v3 (zq_mx s d.w) I (zE_R sw)) 1000000 (0, 0) = some (nI (zq_dk d s (zq_mx s d.w) d.w)) := by
  have w2 := ok.w2
  obtain ⟨μ, hμ, hμ2⟩ := zq_mx_b hB d.w
  have l1 := zE_forE (step := s_X11_shines_144 148 (nI k) v3 (zq_mx s d.w) I (zE_R sw)) (fun i => (nI (zq_dk d s (zq_mx s d.w) i), nI i)) (nI (zq_dk d s (zq_mx s d.w) d.w)) d.w (fun i hi => by
    obtain ⟨σ, hσ, hσ2⟩ := hB (8 + i) (by omega)
    have hcmp := zq_cmp hσ2 hμ2
    rw [← hσ, ← hμ] at hcmp
    unfold s_X11_shines_144 j_X11_shines_229_144
    simp only [zE_gM, zE_rM sw, zE_sM, zw_g_t, zw_let_e, zE_in (k := k) (n := 20) hk (by decide), zE_cl (k := k) (by omega), dm.w, zq_someM hk ok dm i hi, zE_in (k := i) (n := 12) (by omega) (by decide), zE_cl (k := i) (by omega), Option.bind_some, nI_1, hs i (by omega)]
    rw [if_neg (nI_ge hi (by omega))]
    show _ = some (Sum.inl (nI (zq_dk d s (zq_mx s d.w) i + (if (zq_cc d i d.t = true ∧ ¬ zq_mx s d.w ≤ s (8 + i) * 10) then 1 else 0)), nI (i + 1)))
    by_cases c2 : zq_cc d i d.t = true
    · rw [if_pos c2, if_neg zE_10]
      by_cases c1 : zq_mx s d.w ≤ s (8 + i) * 10
      · rw [if_neg (show ¬ (zq_cc d i d.t = true ∧ ¬ zq_mx s d.w ≤ s (8 + i) * 10) from fun q => q.2 c1), if_pos (hcmp.mpr c1)]
        rfl
      · rw [if_pos (show zq_cc d i d.t = true ∧ ¬ zq_mx s d.w ≤ s (8 + i) * 10 from ⟨c2, c1⟩), if_neg (fun q => c1 (hcmp.mp q))]
    · rw [if_neg (show ¬ (zq_cc d i d.t = true ∧ ¬ zq_mx s d.w ≤ s (8 + i) * 10) from fun q => c2 q.1), if_neg c2, if_pos rfl]
      rfl) (by
    unfold s_X11_shines_144
    simp only [zE_gM, zE_rM sw, zE_sM, zw_g_t, zE_in (k := k) (n := 20) hk (by decide), zE_cl (k := k) (by omega), dm.w]
    exact if_pos (nI_le (Nat.le_refl _) (by omega))) (by omega)
  exact l1
theorem zq_unevenM {sw : Bool} {I : zI} {k : Nat} {d : zq_D} {s : Nat → Int32} {v3 v10 : Int32} (hk : k < 20) (ok : zq_ok d) (dm : zq_DM I k d) (hs : ∀ j, j < 12 → I 185 j = s (8 + j)) : zw_it (s_X11_shines_241 148 (nI k) v3 v10 I (zE_R sw)) 1000000 (0, 0) = some (zq_un d s (d.w / 2)) := by
  have w1 := ok.w1
  have w2 := ok.w2
  have hd : nI d.w / 2 = nI (d.w / 2) := pk_div (d := 2) (by omega) (by decide) (by decide)
  have l1 := zE_forE (step := s_X11_shines_241 148 (nI k) v3 v10 I (zE_R sw)) (fun i => (zq_un d s i, nI i)) (zq_un d s (d.w / 2)) (d.w / 2) (fun i hi => by
    have e1 : nI d.w - 1 - nI i = nI (d.w - 1 - i) := by rw [show (1 : Int32) = nI 1 from rfl, pk_sub w1, pk_sub (by omega)]
    unfold s_X11_shines_241 j_X11_shines_295_241
    simp only [zE_gM, zE_rM sw, zE_sM, zw_g_t, zw_let_e, zE_in (k := k) (n := 20) hk (by decide), zE_cl (k := k) (by omega), dm.w, hd, e1, zE_in (k := i) (n := 12) (by omega) (by decide), zE_cl (k := i) (by omega), zE_in (k := d.w - 1 - i) (n := 12) (by omega) (by decide), zE_cl (k := d.w - 1 - i) (by omega), nI_1, hs i (by omega), hs (d.w - 1 - i) (by omega)]
    rw [if_neg (nI_ge hi (by omega))]
    show _ = some (Sum.inl (zq_un d s i + (if 0 ≤ s (8 + i) - s (8 + (d.w - 1 - i)) then s (8 + i) - s (8 + (d.w - 1 - i)) else -(s (8 + i) - s (8 + (d.w - 1 - i)))), nI (i + 1)))
    split <;> rfl) (by
    unfold s_X11_shines_241
    simp only [zE_gM, zE_rM sw, zE_sM, zw_g_t, zE_in (k := k) (n := 20) hk (by decide), zE_cl (k := k) (by omega), dm.w, hd]
    exact if_pos (nI_le (Nat.le_refl _) (by omega))) (by omega)
  exact l1
/-- the model's eight variables -/
def zq_var (d : zq_D) (c : Nat) (s : Nat → Int32) (j : Nat) : Int32 := if j = 0 then s 0 else if j = 1 then s 1 + s 2 + s 3 else if j = 2 then nI (zq_dk d s (zq_mx s d.w) d.w) else if j = 3 then nI (zq_hf d d.t) else if j = 4 then zq_un d s (d.w / 2) else if j = 5 then s 7 else if j = 6 then nI d.w else nI c
theorem zq_shinesM {sw : Bool} {I : zI} {k q c : Nat} {d : zq_D} {fl sl ea ab le ri a b : Int32} (hk : k < 20) (hq : q < 8) (hc : c < 4) (ok : zq_ok d) (dm : zq_DM I k d) (hfl : I 159 (4 * q + c) = fl) (hsl : I 160 (4 * q + c) = sl) (hea : I 161 q = ea) (hB : zq_SB 10000000 (zq_shS d fl sl ea ab le ri a b)) : ∃ I2, f_X11_shines 148 (nI k) (nI q) (nI c) ab le ri a b I (zE_R sw) = some I2 ∧ (∀ o, o ≠ 148 → o ≠ 182 → (o < 184 ∨ 186 < o) → I2 o = I o) ∧ (∀ y, (y < 54 ∨ 59 < y) → I2 148 y = I 148 y) ∧ (∀ j, j < 4 → I2 184 j = zq_shS d fl sl ea ab le ri a b j) ∧ I2 148 54 = zq_shS d fl sl ea ab le ri a b 4 ∧ I2 148 55 = zq_shS d fl sl ea ab le ri a b 5 ∧ I2 148 56 = zq_shS d fl sl ea ab le ri a b 6 ∧ I2 148 58 = zq_shS d fl sl ea ab le ri a b 7 ∧ I2 148 59 = zq_gv d ab le ri a b ∧ (∀ j, j < 12 → I2 185 j = zq_shS d fl sl ea ab le ri a b (8 + j)) ∧ ∀ j, j < 8 → I2 182 j = zq_var d c (zq_shS d fl sl ea ab le ri a b) j := by
  have w2 := ok.w2
  have t2 := ok.t2
  obtain ⟨Ia, a1, a2⟩ := zq_darkensM (sw := sw) I zq_z
  have dmK : ∀ K n tr s st gv, zq_LM I K n tr s st gv → zq_DM K k d := fun K n tr s st gv h => zq_DM_tr dm (h.1 164 (by decide) (by decide) (by decide) (by decide)) (h.1 165 (by decide) (by decide) (by decide) (by decide)) (h.1 166 (by decide) (by decide) (by decide) (by decide))
  have L1 : ∃ r : zI, zw_it (s_X11_shines_7 148 (nI k) (nI q) (nI c) ab le ri a b (zE_R sw)) 1000000 (0, Ia) = some r ∧ ∃ st, zq_LM I r (zq_sa d fl sl ea ab a b d.w).1 (zq_sa d fl sl ea ab a b d.w).2.1 (zq_sa d fl sl ea ab a b d.w).2.2 st (zq_ga ab a b d.w) := by
    refine zE_for (fun i z => z.1 = nI i ∧ ∃ st, zq_LM I z.2 (zq_sa d fl sl ea ab a b i).1 (zq_sa d fl sl ea ab a b i).2.1 (zq_sa d fl sl ea ab a b i).2.2 st (zq_ga ab a b i)) _ d.w ?_ ?_ 0 _ (Nat.zero_le _) (by omega) ⟨rfl, 0, a2⟩
    · rintro i ⟨z1, K⟩ hi ⟨e1, st, hl⟩
      dsimp only at e1 hl
      subst e1
      have dk := dmK _ _ _ _ _ _ hl
      obtain ⟨I2, f1, f2⟩ := zq_lampM (sw := sw) hk hq hc ok dm hfl hsl hea 0 i (Or.inl rfl) (show i < if 0 = 0 then d.w else d.t from hi) ab hl
      have f1b : f_X11_lamp 148 (nI k) (nI q) (nI c) 0 (nI i) ab K (zE_R sw) = some I2 := f1
      unfold s_X11_shines_7 j_X11_shines_32_7 j_X11_shines_44_7
      simp only [zE_gM, zE_rM sw, zE_sM, zw_g_t, zw_let_e, zE_in (k := k) (n := 20) hk (by decide), zE_cl (k := k) (by omega), dk.w, f1b, Option.bind_some, nI_1]
      rw [if_neg (nI_ge hi (by omega))]
      refine Or.inl ?_
      by_cases cc : nI i < a ∨ b < nI i
      · refine ⟨(nI (i + 1), I2), ?_, rfl, ?_⟩
        · rcases cc with c1 | c1
          · rw [if_pos c1]
          · have c2 : ¬ nI i ≤ b := by
              rw [Int32.le_iff_toInt_le]
              rw [Int32.lt_iff_toInt_lt] at c1
              omega
            rw [if_neg c2]
            split <;> rfl
        · have e1 : zq_sa d fl sl ea ab a b (i + 1) = zq_lamp d fl sl ea 0 i ab (zq_sa d fl sl ea ab a b i).2.1 (zq_sa d fl sl ea ab a b i).2.2 := by
            show (if _ then _ else _) = _
            rw [if_pos cc]
          have e2 : zq_ga ab a b (i + 1) = zq_ga ab a b i + ab := by
            show (if _ then _ else _) = _
            rw [if_pos cc]
          rw [e1, e2]
          exact ⟨_, f2⟩
      · refine ⟨(nI (i + 1), K), ?_, rfl, ?_⟩
        · have c1 : ¬ nI i < a := fun q => cc (Or.inl q)
          have c2 : nI i ≤ b := by
            rw [Int32.le_iff_toInt_le]
            have c3 : ¬ b < nI i := fun q => cc (Or.inr q)
            rw [Int32.lt_iff_toInt_lt] at c3
            omega
          rw [if_neg c1, if_pos c2]
        · have e1 : zq_sa d fl sl ea ab a b (i + 1) = zq_sa d fl sl ea ab a b i := by
            show (if _ then _ else _) = _
            rw [if_neg cc]
          have e2 : zq_ga ab a b (i + 1) = zq_ga ab a b i := by
            show (if _ then _ else _) = _
            rw [if_neg cc]
          rw [e1, e2]
          exact ⟨_, hl⟩
    · rintro ⟨z1, K⟩ ⟨e1, st, hl⟩
      dsimp only at e1 hl
      subst e1
      have dk := dmK _ _ _ _ _ _ hl
      refine ⟨K, ?_, st, hl⟩
      unfold s_X11_shines_7
      simp only [zE_gM, zE_rM sw, zE_sM, zw_g_t, zE_in (k := k) (n := 20) hk (by decide), zE_cl (k := k) (by omega), dk.w]
      exact if_pos (nI_le (Nat.le_refl _) (by omega))
  obtain ⟨Ib, b1, st1, b2⟩ := L1
  have L2 : ∃ r : zI, zw_it (s_X11_shines_53 148 (nI k) (nI q) (nI c) le ri (zE_R sw)) 1000000 (0, Ib) = some r ∧ ∃ st, zq_LM I r (zq_ss d fl sl ea le ri (zq_sa d fl sl ea ab a b d.w) d.t).1 (zq_ss d fl sl ea le ri (zq_sa d fl sl ea ab a b d.w) d.t).2.1 (zq_ss d fl sl ea le ri (zq_sa d fl sl ea ab a b d.w) d.t).2.2 st (zq_ga ab a b d.w + (le + ri) * nI d.t) := by
    refine zE_for (fun i z => z.1 = nI i ∧ ∃ st, zq_LM I z.2 (zq_ss d fl sl ea le ri (zq_sa d fl sl ea ab a b d.w) i).1 (zq_ss d fl sl ea le ri (zq_sa d fl sl ea ab a b d.w) i).2.1 (zq_ss d fl sl ea le ri (zq_sa d fl sl ea ab a b d.w) i).2.2 st (zq_ga ab a b d.w + (le + ri) * nI i)) _ d.t ?_ ?_ 0 _ (Nat.zero_le _) (by omega) ⟨rfl, st1, by
      rw [nI_0, Int32.mul_zero, Int32.add_zero]
      exact b2⟩
    · rintro i ⟨z1, K⟩ hi ⟨e1, st, hl⟩
      dsimp only at e1 hl
      subst e1
      have dk := dmK _ _ _ _ _ _ hl
      obtain ⟨I2, f1, f2⟩ := zq_lampM (sw := sw) hk hq hc ok dm hfl hsl hea 3 i (Or.inr (Or.inr rfl)) (show i < if 3 = 0 then d.w else d.t from hi) le hl
      have f1b : f_X11_lamp 148 (nI k) (nI q) (nI c) 3 (nI i) le K (zE_R sw) = some I2 := f1
      obtain ⟨I3, f3, f4⟩ := zq_lampM (sw := sw) hk hq hc ok dm hfl hsl hea 1 i (Or.inr (Or.inl rfl)) (show i < if 1 = 0 then d.w else d.t from hi) ri f2
      have f3b : f_X11_lamp 148 (nI k) (nI q) (nI c) 1 (nI i) ri I2 (zE_R sw) = some I3 := f3
      rw [zq_ring3, nI_1] at f4
      refine Or.inl ⟨(nI (i + 1), I3), ?_, rfl, _, f4⟩
      unfold s_X11_shines_53
      simp only [zE_gM, zE_rM sw, zE_sM, zw_g_t, zw_let_e, zE_in (k := k) (n := 20) hk (by decide), zE_cl (k := k) (by omega), dk.t, f1b, f3b, Option.bind_some, nI_1]
      exact if_neg (nI_ge hi (by omega))
    · rintro ⟨z1, K⟩ ⟨e1, st, hl⟩
      dsimp only at e1 hl
      subst e1
      have dk := dmK _ _ _ _ _ _ hl
      refine ⟨K, ?_, st, hl⟩
      unfold s_X11_shines_53
      simp only [zE_gM, zE_rM sw, zE_sM, zw_g_t, zE_in (k := k) (n := 20) hk (by decide), zE_cl (k := k) (by omega), dk.t]
      exact if_pos (nI_le (Nat.le_refl _) (by omega))
  obtain ⟨Ic, c1, st2, c2⟩ := L2
  have dmc := dmK _ _ _ _ _ _ c2
  obtain ⟨m1, m2, m3, m4, m5, m6, m7, m8, m9, m10, m11⟩ := c2
  have hs : ∀ j, j < 12 → Ic 185 j = zq_shS d fl sl ea ab le ri a b (8 + j) := m10
  have off : ∀ (F : zI) (k : Nat) (v : Int32) (a : Nat), a ≠ 182 → zw_u F 182 k v a = F a := fun F k v a ha => zw_u_off _ _ _ ha
  have dmd : ∀ v1 v2 v3, zq_DM (zw_u (zw_u (zw_u Ic 182 0 v1) 182 1 v2) 182 2 v3) k d := fun v1 v2 v3 => zq_DM_tr dmc (by rw [off _ _ _ _ (by decide), off _ _ _ _ (by decide), off _ _ _ _ (by decide)]) (by rw [off _ _ _ _ (by decide), off _ _ _ _ (by decide), off _ _ _ _ (by decide)]) (by rw [off _ _ _ _ (by decide), off _ _ _ _ (by decide), off _ _ _ _ (by decide)])
  have wo : ∀ v1 v2 v3, f_X11_weightOf 148 (nI k) (zw_u (zw_u (zw_u Ic 182 0 v1) 182 1 v2) 182 2 v3) (zE_R sw) = some (nI (zq_hf d d.t)) := fun v1 v2 v3 => zq_weightOf hk ok (dmd v1 v2 v3)
  unfold f_X11_shines
  simp only [zE_gM, zE_rM sw, zE_sM, zw_g_t, zw_let_e, a1, b1, c1, zq_maxM hk ok dmc hs, zq_darkM hk ok dmc hs hB, zq_unevenM hk ok dmc hs, Option.bind_some, show zw_in 0 4 = true from rfl, show zw_in 1 4 = true from rfl, show zw_in 2 4 = true from rfl, show zw_in 3 4 = true from rfl, show zw_in 0 8 = true from rfl, show zw_in 1 8 = true from rfl, show zw_in 2 8 = true from rfl, show zw_in 3 8 = true from rfl, show zw_in 4 8 = true from rfl, show zw_in 5 8 = true from rfl, show zw_in 6 8 = true from rfl, show zw_in 7 8 = true from rfl, show Int32.toNatClampNeg 0 = 0 from rfl, show Int32.toNatClampNeg 1 = 1 from rfl, show Int32.toNatClampNeg 2 = 2 from rfl, show Int32.toNatClampNeg 3 = 3 from rfl, show Int32.toNatClampNeg 4 = 4 from rfl, show Int32.toNatClampNeg 5 = 5 from rfl, show Int32.toNatClampNeg 6 = 6 from rfl, show Int32.toNatClampNeg 7 = 7 from rfl, zE_in (k := k) (n := 20) hk (by decide), zE_cl (k := k) (by omega), off _ _ _ 184 (by decide), off _ _ _ 148 (by decide), off _ _ _ 164 (by decide), dmc.w, m3 0 (by decide), m3 1 (by decide), m3 2 (by decide), m3 3 (by decide), m8, wo]
  refine ⟨_, rfl, fun a h1 h2 h3 => ?_, fun y hy => ?_, fun j hj => ?_, ?_, ?_, ?_, ?_, ?_, fun j hj => ?_, fun j hj => ?_⟩
  · simp only [off _ _ _ a h2]
    exact m1 a h1 (by omega) (by omega) (by omega)
  · simp only [off _ _ _ 148 (by decide)]
    exact m2 y hy
  · simp only [off _ _ _ 184 (by decide)]
    exact m3 j hj
  · simp only [off _ _ _ 148 (by decide)]
    exact m4
  · simp only [off _ _ _ 148 (by decide)]
    exact m5
  · simp only [off _ _ _ 148 (by decide)]
    exact m6
  · simp only [off _ _ _ 148 (by decide)]
    exact m8
  · simp only [off _ _ _ 148 (by decide)]
    exact m9
  · simp only [off _ _ _ 185 (by decide)]
    exact m10 j hj
  · unfold zq_var
    by_cases c7 : j = 7
    · subst c7; rw [zE_u1]; rfl
    rw [zE_u2 _ _ (by omega)]
    by_cases c6 : j = 6
    · subst c6; rw [zE_u1]; rfl
    rw [zE_u2 _ _ (by omega)]
    by_cases c5 : j = 5
    · subst c5; rw [zE_u1]; rfl
    rw [zE_u2 _ _ (by omega)]
    by_cases c4 : j = 4
    · subst c4; rw [zE_u1]; rfl
    rw [zE_u2 _ _ (by omega)]
    by_cases c3 : j = 3
    · subst c3; rw [zE_u1]; rfl
    rw [zE_u2 _ _ (by omega)]
    by_cases c2 : j = 2
    · subst c2; rw [zE_u1]; rfl
    rw [zE_u2 _ _ (by omega)]
    by_cases c1 : j = 1
    · subst c1; rw [zE_u1]; rfl
    rw [zE_u2 _ _ (by omega)]
    obtain rfl : j = 0 := by omega
    rw [zE_u1]; rfl
