/-! ===== rules: what the model reckons ===== -/
def zr_KM (I0 I : zI) (s : List Int32) : Prop := (∀ a, a ≠ 183 → I a = I0 a) ∧ zr_st (I 183) s
theorem zr_KM_up {I0 I : zI} {s : List Int32} (h : zr_KM I0 I s) (v : Int32) : zr_KM I0 (zw_u I 183 s.length v) (v :: s) := by
  obtain ⟨h1, h2⟩ := h
  have h3 : zr_st (zw_u I 183 s.length v 183) s := zr_st_u h2 (fun j hj => zE_u2 I v (fun r => by omega))
  have h4 : zw_u I 183 s.length v 183 s.length = v := zE_u1 I 183 s.length v
  refine ⟨fun a ha => ?_, ?_⟩
  · rw [zw_u_off _ _ _ ha, h1 a ha]
  · show zw_u I 183 s.length v 183 s.length = v ∧ zr_st (zw_u I 183 s.length v 183) s
    exact ⟨h4, h3⟩
theorem zr_M1fin {sw : Bool} {I : zI} {i to n : Nat} (hs : n < 500) (w : Int32) : j_X11_termOf_63_10 148 (nI to) (nI n) (nI i) 183 (nI n) w I (zE_R sw) = some (.inl (nI (n + 1), nI (i + 1), zw_u I 183 n w)) := by
  unfold j_X11_termOf_63_10 j_X11_termOf_164_10
  simp only [zE_gM, zE_sM, zw_g_t, zw_let_e, zE_in hs (by decide), zE_cl (show n < 2 ^ 31 by omega), nI_1]
theorem zr_M1g : zw_gc 148 11 = true ∧ zw_gc 179 13 = true ∧ zw_gc 180 13 = true ∧ zw_gc 182 13 = true ∧ zw_gc 183 13 = true := ⟨by simp only [zE_gM], by simp only [zE_gM], by simp only [zE_gM], by simp only [zE_gM], by simp only [zE_gM]⟩
theorem zr_M1s : zw_SH 179 = (13, 1040) ∧ zw_SH 180 = (13, 1040) ∧ zw_SH 182 = (13, 8) := ⟨by simp only [zE_sM], by simp only [zE_sM], by simp only [zE_sM]⟩
/-- where a number or a variable stands in the code -/
theorem zr_M1st {R : zR} (r45 : R 148 45 = 179) (r46 : R 148 46 = 180) (r49 : R 148 49 = 182) (r50 : R 148 50 = 183) {I : zI} {i to n : Nat} {x : Int32} (hi : i < to) (hto : to ≤ 1040) (ek : I 179 i = x) (h2 : ¬ 2 ≤ x) : s_X11_termOf_10 148 (nI to) R (nI n, nI i, I) = if ¬ x = 0 then zw_g (zw_in (I 180 i) 8) (j_X11_termOf_63_10 148 (nI to) (nI n) (nI i) 183 (nI n) (I 182 (Int32.toNatClampNeg (I 180 i))) I R) else j_X11_termOf_63_10 148 (nI to) (nI n) (nI i) 183 (nI n) (I 180 i) I R := by
  obtain ⟨g0, g1, g2, g3, g4⟩ := zr_M1g
  obtain ⟨s1, s2, s3⟩ := zr_M1s
  have i1 : zw_in (nI i) 1040 = true := zE_in (by omega) (by decide)
  have i2 : Int32.toNatClampNeg (nI i) = i := zE_cl (by omega)
  unfold s_X11_termOf_10
  dsimp only
  rw [if_neg (nI_ge hi (by omega)), r45, g0, zw_g_t, g1, zw_g_t, s1]
  dsimp only
  rw [i1, zw_g_t, zw_let_e, i2, ek, if_neg h2, r50, g4, zw_g_t]
  by_cases h0 : x = 0
  · rw [if_neg (fun r => r h0), if_neg (fun r => r h0), r46, g2, zw_g_t, s2]
    dsimp only
    rw [i1, zw_g_t]
  · rw [if_pos h0, if_pos h0, r49, r46, g3, zw_g_t, g2, zw_g_t, s2, s3]
    dsimp only
    rw [i1, zw_g_t]
theorem zr_e1_0 (V : Nat → Int32) (v : Nat) (s : List Int32) (b : Bool) : zr_e1 V (0, v) (s, b) = (nI v :: s, b) := rfl
theorem zr_e1_1 (V : Nat → Int32) (v : Nat) (s : List Int32) (b : Bool) : zr_e1 V (1, v) (s, b) = (V v :: s, b) := rfl
theorem zr_stepM1 {sw : Bool} {I0 I : zI} {i to : Nat} {c : zr_C} {s : List Int32} {b : Bool} (hi : i < to) (hto : to ≤ 1040) (hk : I0 179 i = nI c.1) (hv : I0 180 i = nI c.2) (h : zr_KM I0 I s) (hc : c.1 < 2) (hc8 : c.1 = 1 → c.2 < 8) (hs : s.length < 500) : ∃ I2, s_X11_termOf_10 148 (nI to) (zE_R sw) (nI s.length, nI i, I) = some (.inl (nI (s.length + 1), nI (i + 1), I2)) ∧ zr_KM I0 I2 (zr_e1 (I0 182) c (s, b)).1 ∧ (zr_e1 (I0 182) c (s, b)).2 = b := by
  obtain ⟨h1, h2⟩ := id h
  have ek : I 179 i = nI c.1 := by rw [h1 179 (by decide)]; exact hk
  have ev : I 180 i = nI c.2 := by rw [h1 180 (by decide)]; exact hv
  have e8 : I 182 = I0 182 := h1 182 (by decide)
  obtain ⟨k, v⟩ := c
  dsimp only at hk hv ek ev hc hc8
  rcases (show k = 0 ∨ k = 1 by omega) with rfl | rfl
  · rw [zr_e1_0]
    have st := zr_M1st (R := zE_R sw) (by simp only [zE_rM sw]) (by simp only [zE_rM sw]) (by simp only [zE_rM sw]) (by simp only [zE_rM sw]) (n := s.length) hi hto ek (by decide)
    rw [if_neg (show ¬ ¬ nI 0 = 0 from fun r => r rfl), ev] at st
    exact ⟨zw_u I 183 s.length (nI v), st.trans (zr_M1fin hs (nI v)), zr_KM_up h (nI v), rfl⟩
  · rw [zr_e1_1]
    have v8 := hc8 rfl
    have st := zr_M1st (R := zE_R sw) (by simp only [zE_rM sw]) (by simp only [zE_rM sw]) (by simp only [zE_rM sw]) (by simp only [zE_rM sw]) (n := s.length) hi hto ek (by decide)
    rw [if_pos (show ¬ nI 1 = 0 by decide), ev, zE_in v8 (by decide), zw_g_t, zE_cl (show v < 2 ^ 31 by omega), e8] at st
    exact ⟨zw_u I 183 s.length (I0 182 v), st.trans (zr_M1fin hs (I0 182 v)), zr_KM_up h (I0 182 v), rfl⟩
theorem zr_stepM2 {sw : Bool} {I0 I : zI} {i to : Nat} {c : zr_C} {x y : Int32} {s : List Int32} {b : Bool} (hi : i < to) (hto : to ≤ 1040) (hk : I0 179 i = nI c.1) (h : zr_KM I0 I (y :: x :: s)) (hc : 2 ≤ c.1) (hc5 : c.1 ≤ 5) (hs : s.length + 2 ≤ 500) : (s_X11_termOf_10 148 (nI to) (zE_R sw) (nI (s.length + 2), nI i, I) = some (.inr (.inr I)) ∧ (zr_e1 (I0 182) c (y :: x :: s, b)).2 = true) ∨ ∃ I2 v, s_X11_termOf_10 148 (nI to) (zE_R sw) (nI (s.length + 2), nI i, I) = some (.inl (nI (s.length + 1), nI (i + 1), I2)) ∧ zr_KM I0 I2 (v :: s) ∧ zr_e1 (I0 182) c (y :: x :: s, b) = (v :: s, b) := by
  have ek : I 179 i = nI c.1 := by rw [h.1 _ (by decide)]; exact hk
  obtain ⟨k, v⟩ := c
  dsimp only at hk ek hc hc5
  have ex : I 183 s.length = x := h.2.2.1
  have ey : I 183 (s.length + 1) = y := h.2.1
  have m1 : nI (s.length + 2) + (-1) = nI (s.length + 1) := pk_m1 _
  have m2 : nI (s.length + 1) - 1 = nI s.length := nI_pred _
  have hK : ∀ w, zr_KM I0 (zw_u I 183 s.length w) (w :: s) := fun w => zr_KM_up ⟨h.1, h.2.2.2⟩ w
  have st : s_X11_termOf_10 148 (nI to) (zE_R sw) (nI (s.length + 2), nI i, I) = (if ¬ nI k = 5 then j_X11_termOf_109_10 148 (nI to) (nI (s.length + 1)) (nI i) (nI k) x y I (zE_R sw) else if ¬ y = 0 then j_X11_termOf_109_10 148 (nI to) (nI (s.length + 1)) (nI i) (nI k) x y I (zE_R sw) else some (.inr (.inr I))) := by
    unfold s_X11_termOf_10
    simp only [zE_gM, zE_rM sw, zE_sM, zw_g_t, zw_let_e, if_neg (nI_ge hi (by omega)), zE_in (show i < 1040 by omega) (by decide), zE_cl (show i < 2 ^ 31 by omega), ek, if_pos (show (2 : Int32) ≤ nI k from nI_le (a := 2) hc (by omega)), m1, m2, zE_in (show s.length < 500 by omega) (by decide), zE_in (show s.length + 1 < 500 by omega) (by decide), zE_cl (show s.length < 2 ^ 31 by omega), zE_cl (show s.length + 1 < 2 ^ 31 by omega), ex, ey]
  have fin : ∀ w, j_X11_termOf_163_10 148 (nI to) (nI (s.length + 1)) (nI i) 183 (nI s.length) w I (zE_R sw) = some (.inl (nI (s.length + 1), nI (i + 1), zw_u I 183 s.length w)) := by
    intro w
    unfold j_X11_termOf_163_10 j_X11_termOf_164_10
    simp only [zE_gM, zE_sM, zw_g_t, zw_let_e, zE_in (show s.length < 500 by omega) (by decide), zE_cl (show s.length < 2 ^ 31 by omega), nI_1]
  rw [st]
  unfold j_X11_termOf_109_10 zr_e1
  simp only [zE_gM, zE_rM sw, zw_g_t, m2, fin]
  rcases (show k = 2 ∨ k = 3 ∨ k = 4 ∨ k = 5 by omega) with rfl | rfl | rfl | rfl
  · rw [if_pos (show ¬ nI 2 = 5 by decide), if_neg (show ¬ ¬ nI 2 = 2 from fun r => r rfl)]
    exact Or.inr ⟨_, x + y, rfl, hK _, rfl⟩
  · rw [if_pos (show ¬ nI 3 = 5 by decide), if_pos (show ¬ nI 3 = 2 by decide), if_neg (show ¬ ¬ nI 3 = 3 from fun r => r rfl)]
    exact Or.inr ⟨_, x - y, rfl, hK _, rfl⟩
  · rw [if_pos (show ¬ nI 4 = 5 by decide), if_pos (show ¬ nI 4 = 2 by decide), if_pos (show ¬ nI 4 = 3 by decide), if_neg (show ¬ ¬ nI 4 = 4 from fun r => r rfl)]
    exact Or.inr ⟨_, x * y, rfl, hK _, rfl⟩
  · rw [if_neg (show ¬ ¬ nI 5 = 5 from fun r => r rfl)]
    by_cases hy : y = 0
    · rw [if_neg (fun r => r hy)]
      refine Or.inl ⟨rfl, ?_⟩
      show (b || decide (y = 0)) = true
      rw [decide_eq_true hy, Bool.or_true]
    · rw [if_pos hy, if_pos (show ¬ nI 5 = 2 by decide), if_pos (show ¬ nI 5 = 3 by decide), if_pos (show ¬ nI 5 = 4 by decide), zr_n0 hy, zw_g_t]
      refine Or.inr ⟨_, x / y, rfl, hK _, ?_⟩
      show (zr_dv x y :: s, b || decide (y = 0)) = (x / y :: s, b)
      unfold zr_dv
      rw [if_neg hy, decide_eq_false hy, Bool.or_false]
theorem zr_loopM {sw : Bool} {I0 : zI} {to D h2 : Nat} (hto : to ≤ 1040) (hD : D ≤ 500) : ∀ (cs : List zr_C) (n i : Nat) (I : zI) (s : List Int32), cs.length < n → i + cs.length = to → zr_sg (I0 179) (I0 180) i cs → zr_KM I0 I s → zr_w D cs s.length h2 → s.length ≤ D → (∃ I2, zw_it (s_X11_termOf_10 148 (nI to) (zE_R sw)) n (nI s.length, nI i, I) = some (.inl I2) ∧ zr_KM I0 I2 (zr_ev (I0 182) cs (s, false)).1 ∧ (zr_ev (I0 182) cs (s, false)).2 = false) ∨ (∃ I2, zw_it (s_X11_termOf_10 148 (nI to) (zE_R sw)) n (nI s.length, nI i, I) = some (.inr I2) ∧ (∀ a, a ≠ 183 → I2 a = I0 a) ∧ (zr_ev (I0 182) cs (s, false)).2 = true)
  | cs, 0, i, I, s, hn, _, _, _, _, _ => absurd hn (Nat.not_lt_zero _)
  | [], n + 1, i, I, s, hn, hi, hs, hK, hw, hh => by
    have hi : i = to := hi
    refine Or.inl ⟨I, zE_it0 n ?_, hK, rfl⟩
    unfold s_X11_termOf_10
    dsimp only
    rw [if_pos (nI_le (show to ≤ i by omega) (by omega))]
  | c :: cs, n + 1, i, I, s, hn, hi, hs, hK, hw, hh => by
    have hi : i + (cs.length + 1) = to := hi
    have hn : cs.length + 1 < n + 1 := hn
    obtain ⟨w5, w1, w2⟩ := hw
    by_cases hc : c.1 < 2
    · obtain ⟨q1, q2, q3⟩ := w1 hc
      obtain ⟨I2, p1, p2, p3⟩ := zr_stepM1 (sw := sw) (b := false) (show i < to by omega) hto hs.1 hs.2.1 hK hc q2 (by omega)
      have el : (zr_e1 (I0 182) c (s, false)).1.length = s.length + 1 := zr_e1_len hc
      have ee : zr_e1 (I0 182) c (s, false) = ((zr_e1 (I0 182) c (s, false)).1, false) := Prod.ext rfl p3
      have h4 := zr_loopM (sw := sw) hto hD cs n (i + 1) I2 _ (by omega) (by omega) hs.2.2 p2 (by rw [el]; exact q3) (by rw [el]; omega)
      rw [el, ← ee] at h4
      rcases h4 with ⟨I3, r1, r2, r3⟩ | ⟨I3, r1, r2, r3⟩
      · exact Or.inl ⟨I3, (zE_it1 n p1).trans r1, r2, r3⟩
      · exact Or.inr ⟨I3, (zE_it1 n p1).trans r1, r2, r3⟩
    · obtain ⟨q1, q2⟩ := w2 (by omega)
      match s, q1, q2, hK, hh with
      | y :: x :: s, _, q2, hK, hh =>
        have hh : s.length + 1 + 1 ≤ D := hh
        rcases zr_stepM2 (sw := sw) (b := false) (show i < to by omega) hto hs.1 hK (by omega) w5 (by omega) with ⟨p1, p2⟩ | ⟨I2, v, p1, p2, p3⟩
        · refine Or.inr ⟨I, zE_it0 n p1, hK.1, ?_⟩
          show (zr_ev (I0 182) cs (zr_e1 (I0 182) c (y :: x :: s, false))).2 = true
          exact zr_ev_z p2
        · have h4 := zr_loopM (sw := sw) hto hD cs n (i + 1) I2 (v :: s) (by omega) (by omega) hs.2.2 p2 q2 (by show s.length + 1 ≤ D; omega)
          rw [← p3] at h4
          rcases h4 with ⟨I3, r1, r2, r3⟩ | ⟨I3, r1, r2, r3⟩
          · exact Or.inl ⟨I3, (zE_it1 n p1).trans r1, r2, r3⟩
          · exact Or.inr ⟨I3, (zE_it1 n p1).trans r1, r2, r3⟩
def zr_oM (I2 I : zI) : Prop := (∀ a, a ≠ 148 → a ≠ 183 → I2 a = I a) ∧ ∀ y, y ≠ 51 → I2 148 y = I 148 y
theorem zr_oM.rf (I : zI) : zr_oM I I := ⟨fun _ _ _ => rfl, fun _ _ => rfl⟩
theorem zr_oM.tr {I3 I2 I : zI} (h : zr_oM I3 I2) (h1 : zr_oM I2 I) : zr_oM I3 I := ⟨fun a ha hb => (h.1 a ha hb).trans (h1.1 a ha hb), fun y hy => (h.2 y hy).trans (h1.2 y hy)⟩
theorem zr_termOf {sw : Bool} {I : zI} {f : Nat} {e : List zr_C} (he : zr_E e) (hto : f + e.length ≤ 1040) (hs : zr_sg (I 179) (I 180) f e) : ∃ I2, f_X11_termOf 148 (nI f) (nI (f + e.length)) I (zE_R sw) = some (if zr_z (I 182) e = true then 0 else zr_v (I 182) e, I2) ∧ zr_oM I2 I ∧ I2 148 51 = zr_b (zr_z (I 182) e) := by
  obtain ⟨I1, e1⟩ : ∃ I1, I1 = zw_u I 148 51 0 := ⟨_, rfl⟩
  have f1 : ∀ a, a ≠ 148 → I1 a = I a := fun a ha => by rw [e1, zw_u_off _ _ _ ha]
  have f2 : ∀ y, y ≠ 51 → I1 148 y = I 148 y := fun y hy => by rw [e1, zE_u2 _ _ (by omega)]
  have f3 : I1 148 51 = 0 := by rw [e1, zE_u1]
  have h4 := zr_loopM (sw := sw) (I0 := I1) hto (D := 15) (h2 := 1) (by decide) e 1000000 f I1 [] (by omega) rfl (by rw [f1 _ (by decide), f1 180 (by decide)]; exact hs) ⟨fun _ _ => rfl, trivial⟩ he (by decide)
  rw [f1 182 (by decide), zr_E_ev he, Bool.false_or] at h4
  unfold f_X11_termOf
  simp only [zE_gM, zE_rM sw, zE_sM, zw_g_t, zw_let_e, ← e1]
  rcases h4 with ⟨I2, p1, p2, p3⟩ | ⟨I2, p1, p2, p3⟩
  · dsimp only at p3
    have p1 : zw_it (s_X11_termOf_10 148 (nI (f + e.length)) (zE_R sw)) 1000000 (0, nI f, I1) = some (.inl I2) := p1
    rw [p1, Option.bind_some, p3]
    dsimp only
    simp only [zw_g_t, show zw_in 0 500 = true by decide, show Int32.toNatClampNeg 0 = 0 by decide]
    refine ⟨I2, ?_, ⟨fun a ha hb => (p2.1 a hb).trans (f1 a ha), fun y hy => by rw [p2.1 148 (by decide)]; exact f2 y hy⟩, by rw [p2.1 148 (by decide)]; exact f3⟩
    rw [if_neg (by decide), p2.2.1.symm]
    rfl
  · dsimp only at p3
    have p1 : zw_it (s_X11_termOf_10 148 (nI (f + e.length)) (zE_R sw)) 1000000 (0, nI f, I1) = some (.inr I2) := p1
    rw [p1, Option.bind_some, p3]
    dsimp only
    refine ⟨zw_u I2 148 51 1, ?_, ⟨fun a ha hb => by rw [zw_u_off _ _ _ ha, p2 a hb, f1 a ha], fun y hy => by rw [zE_u2 _ _ (by omega), p2 148 (by decide)]; exact f2 y hy⟩, by rw [zE_u1]; rfl⟩
    rw [if_pos rfl]
/-- a literal as the model has it -/
def zr_LM (I : zI) (l : Nat) (x : zr_L) : Prop := I 173 l = nI x.2.2.1 ∧ I 174 l = zr_b x.2.1 ∧ I 175 l = zr_b x.1 ∧ ∃ p, I 176 l = nI p ∧ I 177 l = nI (p + x.2.2.2.1.length) ∧ I 178 l = nI (p + x.2.2.2.1.length + x.2.2.2.2.length) ∧ p + x.2.2.2.1.length + x.2.2.2.2.length ≤ 1040 ∧ zr_sg (I 179) (I 180) p x.2.2.2.1 ∧ zr_sg (I 179) (I 180) (p + x.2.2.2.1.length) x.2.2.2.2
def zr_LsM (I : zI) : Nat → List zr_L → Prop
  | _, [] => True
  | l, x :: xs => zr_LM I l x ∧ zr_LsM I (l + 1) xs
theorem zr_LM_tr {I2 I : zI} {l : Nat} {x : zr_L} (h : zr_LM I l x) (h2 : ∀ a, 173 ≤ a → a ≤ 180 → I2 a = I a) : zr_LM I2 l x := by
  unfold zr_LM
  rw [h2 173 (by decide) (by decide), h2 174 (by decide) (by decide), h2 175 (by decide) (by decide), h2 176 (by decide) (by decide), h2 177 (by decide) (by decide), h2 178 (by decide) (by decide), h2 179 (by decide) (by decide), h2 180 (by decide) (by decide)]
  exact h
theorem zr_LsM_tr {I2 I : zI} (h2 : ∀ a, 173 ≤ a → a ≤ 180 → I2 a = I a) : ∀ {l : Nat} {xs : List zr_L}, zr_LsM I l xs → zr_LsM I2 l xs
  | l, [], _ => trivial
  | l, x :: xs, h => ⟨zr_LM_tr h.1 h2, zr_LsM_tr h2 h.2⟩
theorem zr_isTrue {sw : Bool} {I : zI} {l : Nat} {x : zr_L} (hl : l < 400) (hx : zr_ok x) (h : zr_LM I l x) : ∃ I2, f_X11_isTrue 148 (nI l) I (zE_R sw) = some (zr_b (zr_t (I 182) x), I2) ∧ zr_oM I2 I := by
  obtain ⟨h1, h2, h3, p, h4, h5, h6, h7, h8, h9⟩ := h
  obtain ⟨o1, o2, o3⟩ := hx
  obtain ⟨I2, a1, a2, a3⟩ := zr_termOf (sw := sw) o2 (by omega) h8
  have g : ∀ a, a ≠ 148 → a ≠ 183 → I2 a = I a := a2.1
  obtain ⟨I3, b1, b2, b3⟩ := zr_termOf (sw := sw) (I := I2) o3 (by omega) (by rw [g 179 (by decide) (by decide), g 180 (by decide) (by decide)]; exact h9)
  have k177 : I2 177 l = nI (p + x.2.2.2.1.length) := by rw [g 177 (by decide) (by decide)]; exact h5
  have k178 : I2 178 l = nI (p + x.2.2.2.1.length + x.2.2.2.2.length) := by rw [g 178 (by decide) (by decide)]; exact h6
  have k182 : I2 182 = I 182 := g 182 (by decide) (by decide)
  rw [k182] at b1 b3
  have k173 : I3 173 l = nI x.2.2.1 := by rw [b2.1 173 (by decide) (by decide), g 173 (by decide) (by decide)]; exact h1
  have k174 : I3 174 l = zr_b x.2.1 := by rw [b2.1 174 (by decide) (by decide), g 174 (by decide) (by decide)]; exact h2
  unfold f_X11_isTrue
  simp only [zE_gM, zE_rM sw, zE_sM, zw_g_t, zw_let_e, zE_in hl (by decide), zE_cl (show l < 2 ^ 31 by omega), h4, h5, a1, Option.bind_some, k177, k178, b1, a3, b3]
  refine ⟨I3, ?_, b2.tr a2⟩
  unfold zr_t
  have last : ∀ t : Bool, j_X11_isTrue_155 148 (nI l) (zr_b t) I3 (zE_R sw) = some (zr_b (t != x.2.1), I3) := by
    intro t
    unfold j_X11_isTrue_155
    simp only [zE_gM, zE_rM sw, zE_sM, zw_g_t, zE_in hl (by decide), zE_cl (show l < 2 ^ 31 by omega), k174]
    cases t <;> cases x.2.1 <;> rfl
  have last2 : ∀ t z : Bool, j_X11_isTrue_139 148 (nI l) (zr_b z) (zr_b t) I3 (zE_R sw) = some (zr_b (((!z) && t) != x.2.1), I3) := by
    intro t z
    unfold j_X11_isTrue_139 j_X11_isTrue_154
    cases t
    · rw [if_pos (show zr_b false = 0 from rfl), Bool.and_false]; exact last false
    · rw [if_neg (show ¬ zr_b true = 0 by decide)]
      cases z
      · rw [if_neg (fun q => q rfl)]; exact last true
      · rw [if_pos (show ¬ zr_b true = 0 by decide)]; exact last false
  have last3 : ∀ (a c : Int32) (z : Bool), j_X11_isTrue_56 148 (nI l) a c (zr_b z) I3 (zE_R sw) = some (zr_b (((!z) && zr_cm x.2.2.1 a c) != x.2.1), I3) := by
    intro a c z
    unfold j_X11_isTrue_56 zr_cm
    simp only [zE_gM, zE_rM sw, zE_sM, zw_g_t, zE_in hl (by decide), zE_cl (show l < 2 ^ 31 by omega), k173]
    rcases (show x.2.2.1 = 0 ∨ x.2.2.1 = 1 ∨ x.2.2.1 = 2 ∨ x.2.2.1 = 3 by omega) with e | e | e | e <;> rw [e]
    · rw [if_neg (show ¬ ¬ nI 0 = 0 from fun q => q rfl), if_pos (show (0 : Nat) = 0 from rfl)]
      by_cases q : a = c
      · rw [if_neg (fun r => r q), decide_eq_true q]; exact last2 true z
      · rw [if_pos q, decide_eq_false q]; exact last2 false z
    · rw [if_pos (show ¬ nI 1 = 0 by decide), if_neg (show ¬ ¬ nI 1 = 1 from fun q => q rfl), if_neg (show ¬ (1 : Nat) = 0 by decide), if_pos (show (1 : Nat) = 1 from rfl)]
      by_cases q : a = c
      · rw [if_pos q, decide_eq_false (fun r => r q)]; exact last2 false z
      · rw [if_neg q, decide_eq_true q]; exact last2 true z
    · rw [if_pos (show ¬ nI 2 = 0 by decide), if_pos (show ¬ nI 2 = 1 by decide), if_neg (show ¬ ¬ nI 2 = 2 from fun q => q rfl), if_neg (show ¬ (2 : Nat) = 0 by decide), if_neg (show ¬ (2 : Nat) = 1 by decide), if_pos (show (2 : Nat) = 2 from rfl)]
      by_cases q : a < c
      · rw [if_neg (by rw [Int32.le_iff_toInt_le]; rw [Int32.lt_iff_toInt_lt] at q; omega), decide_eq_true q]; exact last2 true z
      · rw [if_pos (by rw [Int32.le_iff_toInt_le]; rw [Int32.lt_iff_toInt_lt] at q; omega), decide_eq_false q]; exact last2 false z
    · rw [if_pos (show ¬ nI 3 = 0 by decide), if_pos (show ¬ nI 3 = 1 by decide), if_pos (show ¬ nI 3 = 2 by decide), if_neg (show ¬ (3 : Nat) = 0 by decide), if_neg (show ¬ (3 : Nat) = 1 by decide), if_neg (show ¬ (3 : Nat) = 2 by decide)]
      by_cases q : a ≤ c
      · rw [if_neg (by rw [Int32.lt_iff_toInt_lt]; rw [Int32.le_iff_toInt_le] at q; omega), decide_eq_true q]; exact last2 true z
      · rw [if_pos (by rw [Int32.lt_iff_toInt_lt]; rw [Int32.le_iff_toInt_le] at q; omega), decide_eq_false q]; exact last2 false z
  have last3t : ∀ (a c : Int32), j_X11_isTrue_56 148 (nI l) a c 1 I3 (zE_R sw) = some (zr_b (false != x.2.1), I3) := by
    intro a c
    have h := last3 a c true
    rw [Bool.not_true, Bool.false_and] at h
    exact h
  have last3f : ∀ (a c : Int32), j_X11_isTrue_56 148 (nI l) a c 0 I3 (zE_R sw) = some (zr_b (zr_cm x.2.2.1 a c != x.2.1), I3) := by
    intro a c
    have h := last3 a c false
    rw [Bool.not_false, Bool.true_and] at h
    exact h
  unfold j_X11_isTrue_51
  simp only [last3t, last3f]
  clear last last2 last3 last3t last3f a1 a3 b1 b3
  cases zr_z (I 182) x.2.2.2.1
  · rw [if_neg (show ¬ ¬ zr_b false = 0 from fun r => r rfl), if_neg (show ¬ (false : Bool) = true by decide)]
    cases zr_z (I 182) x.2.2.2.2
    · rw [if_pos (show zr_b false = 0 from rfl), if_neg (show ¬ (false : Bool) = true by decide), Bool.or_false, Bool.not_false, Bool.true_and]
    · rw [if_neg (show ¬ zr_b true = 0 by decide), Bool.or_true, Bool.not_true, Bool.false_and]
  · rw [if_pos (show ¬ zr_b true = 0 by decide), Bool.true_or, Bool.not_true, Bool.false_and]
/-- a rule as the model has it -/
def zr_RM (I : zI) (k : Nat) (e : List zr_C) (ls : List zr_L) : Prop := ∃ f l, I 169 k = nI f ∧ I 170 k = nI (f + e.length) ∧ f + e.length ≤ 1040 ∧ zr_sg (I 179) (I 180) f e ∧ I 171 k = nI l ∧ I 172 k = nI (l + ls.length) ∧ l + ls.length ≤ 400 ∧ zr_LsM I l ls
theorem zr_RM_tr {I2 I : zI} {k : Nat} {e : List zr_C} {ls : List zr_L} (h : zr_RM I k e ls) (h2 : ∀ a, 169 ≤ a → a ≤ 180 → I2 a = I a) : zr_RM I2 k e ls := by
  obtain ⟨f, l, h3, h4, h5, h6, h7, h8, h9, h10⟩ := h
  exact ⟨f, l, by rw [h2 169 (by decide) (by decide)]; exact h3, by rw [h2 170 (by decide) (by decide)]; exact h4, h5, by rw [h2 179 (by decide) (by decide), h2 180 (by decide) (by decide)]; exact h6, by rw [h2 171 (by decide) (by decide)]; exact h7, by rw [h2 172 (by decide) (by decide)]; exact h8, h9, zr_LsM_tr (fun a q1 q2 => h2 a (by omega) q2) h10⟩
theorem zr_holdsLoop {sw : Bool} {I0 : zI} {k lst : Nat} (hk : k < 32) (h172 : I0 172 k = nI lst) (h400 : lst ≤ 400) : ∀ (ls : List zr_L) (n l : Nat) (I : zI) (cur : Bool), ls.length < n → l + ls.length = lst → zr_oM I I0 → zr_LsM I0 l ls → (∀ x, x ∈ ls → zr_ok x) → ∃ I2, zr_oM I2 I0 ∧ ((zw_it (s_X11_holds_26 148 (nI k) (zE_R sw)) n (zr_b cur, nI l, I) = some (.inl (zr_b (zr_hd (I0 182) false cur ls), I2))) ∨ (zw_it (s_X11_holds_26 148 (nI k) (zE_R sw)) n (zr_b cur, nI l, I) = some (.inr I2) ∧ zr_hd (I0 182) false cur ls = true))
  | ls, 0, l, I, cur, hn, _, _, _, _ => absurd hn (Nat.not_lt_zero _)
  | [], n + 1, l, I, cur, hn, hl, ho, hs, hx => by
    have hl : l = lst := hl
    refine ⟨I, ho, Or.inl (zE_it0 n ?_)⟩
    unfold s_X11_holds_26
    have e1 : I 172 k = nI lst := by rw [ho.1 172 (by decide) (by decide)]; exact h172
    simp only [zE_gM, zE_rM sw, zE_sM, zw_g_t, zE_in hk (by decide), zE_cl (show k < 2 ^ 31 by omega), e1, if_pos (nI_le (show lst ≤ l by omega) (by omega))]
    rfl
  | x :: ls, n + 1, l, I, cur, hn, hl, ho, hs, hx => by
    have hl : l + (ls.length + 1) = lst := hl
    have hn : ls.length + 1 < n + 1 := hn
    have hx1 := hx x (List.mem_cons_self ..)
    have hx2 : ∀ y, y ∈ ls → zr_ok y := fun y hy => hx y (List.mem_cons_of_mem _ hy)
    have e1 : I 172 k = nI lst := by rw [ho.1 172 (by decide) (by decide)]; exact h172
    have e2 : I 175 l = zr_b x.1 := by rw [ho.1 175 (by decide) (by decide)]; exact hs.1.2.2.1
    have e3 : I 182 = I0 182 := ho.1 182 (by decide) (by decide)
    obtain ⟨I2, t1, t2⟩ := zr_isTrue (sw := sw) (l := l) (by omega) hx1 (zr_LM_tr (I2 := I) hs.1 (fun a q1 q2 => ho.1 a (by omega) (by omega)))
    rw [e3] at t1
    have st : ∀ c2 : Bool, j_X11_holds_62_26 148 (nI k) (zr_b c2) (nI l) I (zE_R sw) = some (.inl (zr_b (c2 && zr_t (I0 182) x), nI (l + 1), if c2 = true then I2 else I)) := by
      intro c2
      unfold j_X11_holds_62_26 j_X11_holds_78_26 j_X11_holds_79_26
      simp only [zE_gM, zw_g_t, t1, Option.bind_some, zw_let_e, nI_1]
      cases c2
      · rw [if_pos (show zr_b false = 0 from rfl)]; rfl
      · rw [if_neg (show ¬ zr_b true = 0 by decide), Bool.true_and]
        generalize zr_t (I0 182) x = t
        cases t <;> rfl
    have g : ∀ c2 : Bool, zr_oM (if c2 = true then I2 else I) I0 := by
      intro c2
      cases c2
      · exact ho
      · exact t2.tr ho
    have step : s_X11_holds_26 148 (nI k) (zE_R sw) (zr_b cur, nI l, I) = if x.1 = true ∧ cur = true then some (.inr (.inr I)) else some (.inl (zr_b ((x.1 || cur) && zr_t (I0 182) x), nI (l + 1), if (x.1 || cur) = true then I2 else I)) := by
      unfold s_X11_holds_26 j_X11_holds_51_26
      simp only [zE_gM, zE_rM sw, zE_sM, zw_g_t, zE_in hk (by decide), zE_cl (show k < 2 ^ 31 by omega), e1, if_neg (nI_ge (show l < lst by omega) (by omega)), zE_in (show l < 400 by omega) (by decide), zE_cl (show l < 2 ^ 31 by omega), e2]
      cases x.1
      · rw [if_pos (show zr_b false = 0 from rfl), if_pos (show zr_b false = 0 from rfl), st cur, if_neg (show ¬ ((false : Bool) = true ∧ cur = true) from fun r => absurd r.1 (by decide)), Bool.false_or]
      · rw [if_neg (show ¬ zr_b true = 0 by decide), if_neg (show ¬ zr_b true = 0 by decide)]
        cases cur
        · rw [if_pos (show zr_b false = 0 from rfl), if_neg (show ¬ ((true : Bool) = true ∧ (false : Bool) = true) from fun r => absurd r.2 (by decide)), Bool.true_or]
          exact st true
        · rw [if_neg (show ¬ zr_b true = 0 by decide), if_pos ⟨rfl, rfl⟩]
    by_cases hc : x.1 = true ∧ cur = true
    · rw [if_pos hc] at step
      refine ⟨I, ho, Or.inr ⟨zE_it0 n step, ?_⟩⟩
      unfold zr_hd
      rw [if_pos hc.1, hc.2]
      exact zr_hd_true _ ls _
    · rw [if_neg hc] at step
      obtain ⟨I3, r1, r2⟩ := zr_holdsLoop (sw := sw) hk h172 h400 ls n (l + 1) (if (x.1 || cur) = true then I2 else I) ((x.1 || cur) && zr_t (I0 182) x) (by omega) (by omega) (g _) hs.2 hx2
      have eh : zr_hd (I0 182) false cur (x :: ls) = zr_hd (I0 182) false ((x.1 || cur) && zr_t (I0 182) x) ls := by
        show (if x.1 = true then zr_hd (I0 182) (false || cur) (zr_t (I0 182) x) ls else zr_hd (I0 182) false (cur && zr_t (I0 182) x) ls) = _
        cases hx1 : x.1
        · rw [if_neg (by decide), Bool.false_or]
        · rw [if_pos rfl, Bool.false_or, Bool.true_or, Bool.true_and]
          cases cur
          · rfl
          · exact absurd ⟨hx1, rfl⟩ hc
      rw [eh]
      rcases r2 with r2 | ⟨r2, r3⟩
      · exact ⟨I3, r1, Or.inl ((zE_it1 n step).trans r2)⟩
      · exact ⟨I3, r1, Or.inr ⟨(zE_it1 n step).trans r2, r3⟩⟩
theorem zr_holdsM {sw : Bool} {I : zI} {k : Nat} {e : List zr_C} {ls : List zr_L} (hk : k < 32) (h : zr_RM I k e ls) (hx : ∀ x, x ∈ ls → zr_ok x) (h1 : ∀ x xs, ls = x :: xs → x.1 = true) : ∃ I2, f_X11_holds 148 (nI k) I (zE_R sw) = some (zr_b (zr_h (I 182) ls), I2) ∧ zr_oM I2 I := by
  obtain ⟨f, l, -, -, -, -, h7, h8, h9, h10⟩ := h
  unfold f_X11_holds
  simp only [zE_gM, zE_rM sw, zE_sM, zw_g_t, zw_let_e, zE_in hk (by decide), zE_cl (show k < 2 ^ 31 by omega), h7, h8]
  match ls, h8, h9, h10, hx, h1 with
  | [], _, _, _, _, _ =>
    rw [if_neg (fun q => q rfl)]
    exact ⟨_, rfl, zr_oM.rf I⟩
  | x :: ls, h8, h9, h10, hx, h1 =>
    have h9 : l + (ls.length + 1) ≤ 400 := h9
    rw [if_pos (zr_ne (show l ≠ l + (x :: ls).length by show l ≠ l + (ls.length + 1); omega) (by omega) (by show l + (ls.length + 1) < _; omega))]
    obtain ⟨I2, r1, r2⟩ := zr_holdsLoop (sw := sw) hk h8 h9 (x :: ls) 1000000 l I false (by show ls.length + 1 < _; omega) rfl (zr_oM.rf I) h10 hx
    have eh : zr_hd (I 182) false false (x :: ls) = zr_h (I 182) (x :: ls) := by
      show (if x.1 = true then zr_hd (I 182) (false || false) (zr_t (I 182) x) ls else zr_hd (I 182) false (false && zr_t (I 182) x) ls) = zr_hd (I 182) false (zr_t (I 182) x) ls
      rw [if_pos (h1 x ls rfl)]
      rfl
    rw [eh] at r2
    rcases r2 with r2 | ⟨r2, r3⟩
    · have r2 : zw_it (s_X11_holds_26 148 (nI k) (zE_R sw)) 1000000 (0, nI l, I) = _ := r2
      rw [r2, Option.bind_some]
      dsimp only
      refine ⟨I2, ?_, r1⟩
      generalize zr_h (I 182) (x :: ls) = t
      cases t <;> rfl
    · have r2 : zw_it (s_X11_holds_26 148 (nI k) (zE_R sw)) 1000000 (0, nI l, I) = _ := r2
      rw [r2, Option.bind_some, r3]
      exact ⟨I2, rfl, r1⟩
