/-! ===== fits, places, the first place ===== -/
def zq_G (c s : Nat) : Prop := s = 5 ∨ (s = c ∧ c ≤ 4)
def zq_Fit (d e : zq_D) (x y a b : Nat) : Prop := ∀ cy, cy < d.t → ∀ cx, cx < d.w → d.c cx cy ≠ 0 → a ≤ x + cx ∧ x + cx < b ∧ zq_G (d.c cx cy) (zq_at e (nI (x + cx)) (nI (y + cy)))
noncomputable def zq_fb (d e : zq_D) (x y a b : Nat) : Bool := @decide (zq_Fit d e x y a b) (Classical.propDecidable _)
theorem zq_fb1 {d e : zq_D} {x y a b : Nat} (h : zq_Fit d e x y a b) : zq_fb d e x y a b = true := by unfold zq_fb; exact @decide_eq_true _ (Classical.propDecidable _) h
theorem zq_fb0 {d e : zq_D} {x y a b : Nat} (h : ¬ zq_Fit d e x y a b) : zq_fb d e x y a b = false := by unfold zq_fb; exact @decide_eq_false _ (Classical.propDecidable _) h
theorem zq_fb2 {d e : zq_D} {x y a b : Nat} (h : zq_fb d e x y a b = true) : zq_Fit d e x y a b := by unfold zq_fb at h; exact @of_decide_eq_true _ (Classical.propDecidable _) h
theorem zq_at_in2 {d : zq_D} (ok : zq_ok d) {x y : Nat} (hx : x < 100) (hy : y < 100) (h : zq_at d (nI x) (nI y) ≠ 0) : x < d.w ∧ y < d.t := by
  obtain ⟨a, b, ha, hb, e1, e2⟩ := zq_at_ne ok h
  have w2 := ok.w2
  have t2 := ok.t2
  have h1 := (nI_eq (by omega) (by omega)).mp e1
  have h2 := (nI_eq (by omega) (by omega)).mp e2
  omega
/-- beyond the ROUGH nothing fits -/
theorem zq_fb_w {d e : zq_D} (okd : zq_ok d) (oke : zq_ok e) {x y a : Nat} (hx : x < 12) (hy : y < 12) : zq_Fit d e x y a e.w ↔ zq_Fit d e x y a 12 := by
  have w2 := oke.w2
  have dw := okd.w2
  have dt := okd.t2
  refine ⟨fun h cy h1 cx h2 h3 => ?_, fun h cy h1 cx h2 h3 => ?_⟩
  · obtain ⟨q1, q2, q3⟩ := h cy h1 cx h2 h3
    exact ⟨q1, by omega, q3⟩
  · obtain ⟨q1, q2, q3⟩ := h cy h1 cx h2 h3
    refine ⟨q1, (zq_at_in2 oke (x := x + cx) (y := y + cy) (by omega) (by omega) ?_).1, q3⟩
    rcases q3 with q3 | ⟨q3, q4⟩
    · rw [q3]; decide
    · rw [q3]; exact h3
theorem zq_liesC {b : Bool} {I : zI} {o g : Nat} {d e : zq_D} (hro : zq_dr b o) (hrg : zq_dr b g) (okd : zq_ok d) (oke : zq_ok e) (dcd : zq_DC I o d) (dxd : zq_DX I o d) (dce : zq_DC I g e) {x y : Nat} (hx : x < 12) (hy : y < 12) : (f_X0_liesIn o g (nI x) (nI y) I (zE_R b) = some 1 ∧ zq_Fit d e x y 0 12) ∨ (f_X0_liesIn o g (nI x) (nI y) I (zE_R b) = some 0 ∧ ¬ zq_Fit d e x y 0 12) := by
  have dw := okd.w2
  have dt := okd.t2
  have ew := oke.w2
  have et := oke.t2
  obtain ⟨-, -, f, l, r, i5, i6, i7, hl, hr, hall, -, ⟨yl, hyl, hyl2⟩, ⟨xr, hxr, hxr2⟩⟩ := dxd
  have hfl := (hall l yl hl hyl hyl2).1
  have fitin : zq_Fit d e x y 0 12 → ∀ cx cy, cx < d.w → cy < d.t → d.c cx cy ≠ 0 → x + cx < e.w ∧ y + cy < e.t := by
    intro h cx cy h1 h2 h3
    obtain ⟨-, -, q3⟩ := h cy h2 cx h1 h3
    refine zq_at_in2 oke (by omega) (by omega) ?_
    rcases q3 with q3 | ⟨q3, q4⟩
    · rw [q3]; decide
    · rw [q3]; exact h3
  unfold f_X0_liesIn
  simp only [hro.1, hrg.1, zw_g_t, dce.w, dce.t, i6, i7, nI_add]
  by_cases c1 : x + l < e.w
  · rw [if_neg (nI_ge c1 (by omega))]
    by_cases c2 : y + r < e.t
    · rw [if_pos (nI_lt c2 (by omega))]
      have inner : ∀ cy, cy < r + 1 → (zw_it (s_X0_liesIn_46 o g (nI x) (nI y) (nI cy) I (zE_R b)) 1000000 (nI f) = some (.inl ()) ∧ ∀ cx, f ≤ cx → cx < l + 1 → d.c cx cy = 0 ∨ zq_G (d.c cx cy) (zq_at e (nI (x + cx)) (nI (y + cy)))) ∨ (zw_it (s_X0_liesIn_46 o g (nI x) (nI y) (nI cy) I (zE_R b)) 1000000 (nI f) = some (.inr ()) ∧ ∃ cx, f ≤ cx ∧ cx < l + 1 ∧ ¬ (d.c cx cy = 0 ∨ zq_G (d.c cx cy) (zq_at e (nI (x + cx)) (nI (y + cy))))) := by
        intro cy hcy
        refine zq_ex (step := s_X0_liesIn_46 o g (nI x) (nI y) (nI cy) I (zE_R b)) (fun cx => d.c cx cy = 0 ∨ zq_G (d.c cx cy) (zq_at e (nI (x + cx)) (nI (y + cy)))) (l + 1) (by omega) (fun cx hcx => ?_) ?_ f (by omega)
        · have s6 := zq_at_6 oke (nI (x + cx)) (nI (y + cy))
          have c6 := okd.c6 cx cy
          obtain ⟨s, hs⟩ : ∃ s, s = zq_at e (nI (x + cx)) (nI (y + cy)) := ⟨_, rfl⟩
          obtain ⟨c, hc⟩ : ∃ c, c = d.c cx cy := ⟨_, rfl⟩
          unfold s_X0_liesIn_46 j_X0_liesIn_96_46 j_X0_liesIn_97_46 j_X0_liesIn_117_46
          simp only [hro.1, hrg.1, zw_g_t, i6, if_neg (nI_nlt (show cx ≤ l by omega) (by omega)), zq_cC hro okd dcd, zq_cC hrg oke dce, Option.bind_some, nI_add, zq_at_in (show cx < d.w by omega) (show cy < d.t by omega) dw dt, zw_let_e, nI_1, if_pos trivial, if_neg zE_10, if_pos zE_10]
          rw [← hs] at s6
          rw [← hc] at c6
          rw [← hs, ← hc]
          have e1 : (nI c = nI s) = (c = s) := propext (nI_eq (by omega) (by omega))
          have e2 : ((4 : Int32) < nI c) = (4 < c) := propext (nI_ltI (a := 4) (by decide) (by omega))
          have e3 : (nI c = 0) = (c = 0) := propext (nI_eq (b := 0) (by omega) (by decide))
          have e4 : (nI s = 5) = (s = 5) := propext (nI_eq (b := 5) (by omega) (by decide))
          simp only [e1, e2, e3, e4]
          unfold zq_G
          by_cases q1 : c = 0
          · exact Or.inl ⟨Or.inl q1, by simp [q1]⟩
          · by_cases q2 : s = 5
            · exact Or.inl ⟨Or.inr (Or.inl q2), by simp [q2]⟩
            · by_cases q3 : c = s
              · by_cases q4 : 4 < c
                · exact Or.inr ⟨by omega, by simp [q1, q2, q4]⟩
                · exact Or.inl ⟨by omega, by simp [q3, show ¬ 4 < s by omega]⟩
              · exact Or.inr ⟨by omega, by simp [q1, q2, q3]⟩
        · unfold s_X0_liesIn_46
          simp only [hro.1, zw_g_t, i6, if_pos (nI_lt (show l < l + 1 by omega) (by omega))]
      have outer := zq_ex0 (step := s_X0_liesIn_31 o g (nI x) (nI y) I (zE_R b)) (fun cy => ∀ cx, f ≤ cx → cx < l + 1 → d.c cx cy = 0 ∨ zq_G (d.c cx cy) (zq_at e (nI (x + cx)) (nI (y + cy)))) (r + 1) (by omega) (fun cy hcy => by
        unfold s_X0_liesIn_31
        simp only [hro.1, zw_g_t, i7, i5, zw_let_e, if_neg (nI_nlt (show cy ≤ r by omega) (by omega)), nI_1]
        rcases inner cy hcy with ⟨h1, h2⟩ | ⟨h1, cx, h2, h3, h4⟩
        · rw [h1]; exact Or.inl ⟨h2, rfl⟩
        · rw [h1]; exact Or.inr ⟨fun q => h4 (q cx h2 h3), rfl⟩) (by
        unfold s_X0_liesIn_31
        simp only [hro.1, zw_g_t, i7, if_pos (nI_lt (show r < r + 1 by omega) (by omega))])
      rcases outer with ⟨h1, h2⟩ | ⟨h1, cy, h2, h3⟩
      · rw [h1]
        refine Or.inl ⟨rfl, fun cy hcy cx hcx hn => ?_⟩
        obtain ⟨a1, a2, a3⟩ := hall cx cy hcx hcy hn
        rcases h2 cy (by omega) cx a1 (by omega) with q | q
        · exact absurd q hn
        · exact ⟨by omega, by omega, q⟩
      · rw [h1]
        refine Or.inr ⟨rfl, fun q => h3 (fun cx a1 a2 => ?_)⟩
        by_cases hn : d.c cx cy = 0
        · exact Or.inl hn
        · exact Or.inr (q cy (by omega) cx (by omega) hn).2.2
    · rw [if_neg (fun q => c2 ((nI_ltI (by omega) (by omega)).mp q))]
      exact Or.inr ⟨rfl, fun q => c2 (fitin q xr r hxr hr hxr2).2⟩
  · rw [if_pos (nI_le (by omega) (by omega))]
    exact Or.inr ⟨rfl, fun q => c1 (fitin q l yl hl hyl hyl2).1⟩
theorem zq_liesM {sw : Bool} {I : zI} {k kr : Nat} {d e : zq_D} (hk : k < 20) (hkr : kr < 20) (okd : zq_ok d) (oke : zq_ok e) (dmd : zq_DM I k d) (dme : zq_DM I kr e) {x y a b : Nat} (hx : x < 12) (hy : y < 12) (ha : a ≤ 12) (hb : b ≤ 12) : (f_X11_lies 148 (nI k) (nI kr) (nI x) (nI y) (nI a) (nI b) I (zE_R sw) = some 1 ∧ zq_Fit d e x y a b) ∨ (f_X11_lies 148 (nI k) (nI kr) (nI x) (nI y) (nI a) (nI b) I (zE_R sw) = some 0 ∧ ¬ zq_Fit d e x y a b) := by
  have dw := okd.w2
  have dt := okd.t2
  have inner : ∀ cy, cy < d.t → (zw_it (s_X11_lies_17 148 (nI k) (nI kr) (nI x) (nI y) (nI a) (nI b) (nI cy) I (zE_R sw)) 1000000 0 = some (.inl ()) ∧ ∀ cx, cx < d.w → d.c cx cy ≠ 0 → a ≤ x + cx ∧ x + cx < b ∧ zq_G (d.c cx cy) (zq_at e (nI (x + cx)) (nI (y + cy)))) ∨ (zw_it (s_X11_lies_17 148 (nI k) (nI kr) (nI x) (nI y) (nI a) (nI b) (nI cy) I (zE_R sw)) 1000000 0 = some (.inr ()) ∧ ∃ cx, cx < d.w ∧ ¬ (d.c cx cy ≠ 0 → a ≤ x + cx ∧ x + cx < b ∧ zq_G (d.c cx cy) (zq_at e (nI (x + cx)) (nI (y + cy))))) := by
    intro cy hcy
    refine zq_ex0 (step := s_X11_lies_17 148 (nI k) (nI kr) (nI x) (nI y) (nI a) (nI b) (nI cy) I (zE_R sw)) (fun cx => d.c cx cy ≠ 0 → a ≤ x + cx ∧ x + cx < b ∧ zq_G (d.c cx cy) (zq_at e (nI (x + cx)) (nI (y + cy)))) d.w (by omega) (fun cx hcx => ?_) ?_
    · have s6 := zq_at_6 oke (nI (x + cx)) (nI (y + cy))
      have c6 := okd.c6 cx cy
      obtain ⟨s, hs⟩ : ∃ s, s = zq_at e (nI (x + cx)) (nI (y + cy)) := ⟨_, rfl⟩
      obtain ⟨c, hc⟩ : ∃ c, c = d.c cx cy := ⟨_, rfl⟩
      unfold s_X11_lies_17 j_X11_lies_102_17
      simp only [zE_gM, zE_rM sw, zE_sM, zw_g_t, zE_in (k := k) (n := 20) hk (by decide), zE_cl (k := k) (by omega), dmd.w, if_neg (nI_ge hcx (by omega)), zq_cM hk okd dmd, zq_cM hkr oke dme, Option.bind_some, nI_add, zq_at_in hcx hcy dw dt, zw_let_e, nI_1]
      rw [← hs] at s6
      rw [← hc] at c6
      rw [← hs, ← hc]
      have e1 : (nI s = nI c) = (s = c) := propext (nI_eq (by omega) (by omega))
      have e2 : ((4 : Int32) < nI c) = (4 < c) := propext (nI_ltI (a := 4) (by decide) (by omega))
      have e3 : (nI c = 0) = (c = 0) := propext (nI_eq (b := 0) (by omega) (by decide))
      have e4 : (nI s = 5) = (s = 5) := propext (nI_eq (b := 5) (by omega) (by decide))
      have e5 : (nI (x + cx) < nI a) = (x + cx < a) := propext (nI_ltI (by omega) (by omega))
      have e6 : (nI b ≤ nI (x + cx)) = (b ≤ x + cx) := propext (nI_leI (by omega) (by omega))
      simp only [e1, e2, e3, e4, e5, e6]
      unfold zq_G
      by_cases q1 : c = 0
      · exact Or.inl ⟨fun q => absurd q1 q, by simp [q1]⟩
      · by_cases q2 : x + cx < a
        · exact Or.inr ⟨fun q => by have := q q1; omega, by simp [q1, q2]⟩
        · by_cases q3 : b ≤ x + cx
          · exact Or.inr ⟨fun q => by have := q q1; omega, by simp [q1, q2, q3]⟩
          · by_cases q4 : s = 5
            · exact Or.inl ⟨fun _ => ⟨by omega, by omega, Or.inl q4⟩, by simp [q1, q2, q3, q4]⟩
            · by_cases q5 : 4 < c
              · exact Or.inr ⟨fun q => by have := (q q1).2.2; omega, by simp [q1, q2, q3, q4, q5]⟩
              · by_cases q6 : s = c
                · exact Or.inl ⟨fun _ => ⟨by omega, by omega, Or.inr ⟨q6, by omega⟩⟩, by simp only [if_pos q1, if_neg q2, if_neg q3, if_neg q4, if_neg q5, if_pos q6]⟩
                · exact Or.inr ⟨fun q => by have := (q q1).2.2; omega, by simp only [if_pos q1, if_neg q2, if_neg q3, if_neg q4, if_neg q5, if_neg q6]⟩
    · unfold s_X11_lies_17
      simp only [zE_gM, zE_rM sw, zE_sM, zw_g_t, zE_in (k := k) (n := 20) hk (by decide), zE_cl (k := k) (by omega), dmd.w, if_pos (nI_le (Nat.le_refl d.w) (by omega))]
  have outer := zq_ex0 (step := s_X11_lies_3 148 (nI k) (nI kr) (nI x) (nI y) (nI a) (nI b) I (zE_R sw)) (fun cy => ∀ cx, cx < d.w → d.c cx cy ≠ 0 → a ≤ x + cx ∧ x + cx < b ∧ zq_G (d.c cx cy) (zq_at e (nI (x + cx)) (nI (y + cy)))) d.t (by omega) (fun cy hcy => by
    unfold s_X11_lies_3
    simp only [zE_gM, zE_rM sw, zE_sM, zw_g_t, zE_in (k := k) (n := 20) hk (by decide), zE_cl (k := k) (by omega), dmd.t, if_neg (nI_ge hcy (by omega)), zw_let_e, nI_1]
    rcases inner cy hcy with ⟨h1, h2⟩ | ⟨h1, cx, h2, h3⟩
    · rw [h1]; exact Or.inl ⟨h2, rfl⟩
    · rw [h1]; exact Or.inr ⟨fun q => h3 (q cx h2), rfl⟩) (by
    unfold s_X11_lies_3
    simp only [zE_gM, zE_rM sw, zE_sM, zw_g_t, zE_in (k := k) (n := 20) hk (by decide), zE_cl (k := k) (by omega), dmd.t, if_pos (nI_le (Nat.le_refl d.t) (by omega))])
  unfold f_X11_lies
  rcases outer with ⟨h1, h2⟩ | ⟨h1, y, h2, h3⟩
  · rw [h1]; exact Or.inl ⟨rfl, h2⟩
  · rw [h1]; exact Or.inr ⟨rfl, fun q => h3 (q y h2)⟩
/-- fits -/
theorem zq_fitsE {b : Bool} {I : zI} {H : zq_H} (hK : zq_HK H) (hC : zq_HC b I H) (hM : zq_HM b I H) (v1 v2 v3 v4 : Int32) : ∃ r, f_X10_fits 1 v1 v2 v3 v4 I (zE_R b) = some r ∧ f_X11_fits 148 v1 v2 v3 v4 I (zE_R b) = some r := by
  have k2 := hK.2.1
  have k3 := hK.2.2.1
  have hl := zq_lv1 b
  unfold f_X10_fits f_X11_fits j_X11_fits_47
  simp only [zE_gC, zE_gM, zw_g_t]
  obtain ⟨qr, hqr⟩ := (zq_rowAny hK hM v2).2.1
  rcases zq_isCut hK hC v1 with ⟨h1, h2⟩ | ⟨j, hj, rfl, h2⟩
  · rw [h2, (zq_cutRow hK hM v1).1 h1, hqr]; exact ⟨_, rfl, rfl⟩
  rw [h2, (zq_cutRow hK hM (nI j)).2 j hj rfl]
  have hm1 := zq_nm1 (n := 10 * zq_lv b + j) (by omega)
  rcases zq_isRough hK hC v2 with ⟨h3, h4⟩ | ⟨i, hi, rfl, h4⟩
  · rw [h4, (zq_roughRow hK hM v2).1 h3]
    simp only [Option.bind_some, if_neg zE_10, if_neg hm1]
    exact ⟨_, rfl, rfl⟩
  rw [h4, (zq_roughRow hK hM (nI i)).2 i hi rfl]
  have hm2 := zq_nm1 (n := 10 * zq_lv b + (6 + i)) (by omega)
  simp only [Option.bind_some, if_neg zE_10, if_neg hm1, if_neg hm2]
  rw [show (11 : Int32) = nI 12 - 1 by decide]
  rcases pk_ix v3 (n := 12) (by decide) with hx | hx | ⟨x, hx, rfl⟩
  · rw [if_pos hx, zE_in_lo hx]; exact ⟨_, rfl, rfl⟩
  · rw [zE_in_hi hx (by decide)]
    refine ⟨-1, ?_, rfl⟩
    by_cases h0 : v3 < 0
    · rw [if_pos h0]
    · rw [if_neg h0, if_pos (show (12 : Int32) ≤ v3 from hx)]
  rw [if_neg (nI_pos (n := x) (by omega)), if_neg (show ¬ (12 : Int32) ≤ nI x from nI_ge (b := 12) hx (by decide)), zE_in_ok hx (by decide), Option.bind_some, if_neg zE_10]
  rcases pk_ix v4 (n := 12) (by decide) with hy | hy | ⟨y, hy, rfl⟩
  · rw [if_pos hy, zE_in_lo hy]; exact ⟨_, rfl, rfl⟩
  · rw [zE_in_hi hy (by decide)]
    refine ⟨-1, ?_, rfl⟩
    split
    · rfl
    · rw [if_neg]
      have h1 := Int32.le_iff_toInt_le.mp hy
      rw [nI_toInt (by decide)] at h1
      rw [Int32.lt_iff_toInt_lt, show (12 : Int32).toInt = 12 by decide]; omega
  rw [if_neg (nI_pos (n := y) (by omega)), if_pos (show nI y < 12 from nI_lt (b := 12) hy (by decide)), zE_in_ok hy (by decide), Option.bind_some, if_pos zE_10]
  have okj := hK.2.2.2.2 j (Or.inl hj)
  have oki := hK.2.2.2.2 (6 + i) (Or.inr ⟨by omega, by omega⟩)
  obtain ⟨dcj, dxj⟩ := hC.2.2.2.2 j (Or.inl hj)
  obtain ⟨dci, -⟩ := hC.2.2.2.2 (6 + i) (Or.inr ⟨by omega, by omega⟩)
  have dmj := hM.2.2.2.2.2 j (Or.inl hj)
  have dmi := hM.2.2.2.2.2 (6 + i) (Or.inr ⟨by omega, by omega⟩)
  have hrj := zq_drk b b j (by omega)
  have hri := zq_drk b b (6 + i) (by omega)
  obtain ⟨r1, r2, r3, g1, g2, s2⟩ := zq_refC b (j := j) (by omega)
  obtain ⟨q1, q2, q3, q4⟩ := zq_refR b (j := i) (by omega)
  simp only [r1, r2, r3, g1, g2, s2, q1, q2, q3, q4, zw_g_t, zE_cl (k := j) (by omega), zE_cl (k := i) (by omega), zE_in (k := j) (n := 6) (by omega) (by decide), zE_in (k := i) (n := 4) (by omega) (by decide), hrj.1, hri.1]
  have eM : ∀ w, f_X11_lies 148 (nI (10 * zq_lv b + j)) (nI (10 * zq_lv b + (6 + i))) (nI x) (nI y) (nI 0) (nI 12) I (zE_R b) = w → f_X11_lies 148 (nI (10 * zq_lv b + j)) (nI (10 * zq_lv b + (6 + i))) (nI x) (nI y) 0 12 I (zE_R b) = w := fun w h => h
  rcases zq_liesC hrj hri okj oki dcj dxj dci hx hy with ⟨c1, c2⟩ | ⟨c1, c2⟩ <;> rcases zq_liesM (sw := b) (k := 10 * zq_lv b + j) (kr := 10 * zq_lv b + (6 + i)) (by omega) (by omega) okj oki dmj dmi hx hy (Nat.zero_le 12) (Nat.le_refl 12) with ⟨m1, m2⟩ | ⟨m1, m2⟩
  · rw [c1, eM _ m1]; exact ⟨_, rfl, rfl⟩
  · exact absurd c2 m2
  · exact absurd m2 c2
  · rw [c1, eM _ m1]; exact ⟨_, rfl, rfl⟩
/-- how many of the first i places -/
noncomputable def zq_pc (d e : zq_D) : Nat → Nat
  | 0 => 0
  | i + 1 => if zq_fb d e (i % 12) (i / 12) 0 12 = true then zq_pc d e i + 1 else zq_pc d e i
theorem zq_pc_le (d e : zq_D) : ∀ i, zq_pc d e i ≤ i
  | 0 => Nat.le_refl _
  | i + 1 => by
    have := zq_pc_le d e i
    unfold zq_pc
    split <;> omega
/-- places -/
theorem zq_placesE {b : Bool} {I : zI} {H : zq_H} (hK : zq_HK H) (hC : zq_HC b I H) (hM : zq_HM b I H) (v1 v2 : Int32) : ∃ r, f_X10_places 1 v1 v2 I (zE_R b) = some r ∧ f_X11_places 148 v1 v2 I (zE_R b) = some r := by
  have k2 := hK.2.1
  have k3 := hK.2.2.1
  have hl := zq_lv1 b
  unfold f_X10_places f_X11_places
  simp only [zE_gC, zE_gM, zw_g_t]
  obtain ⟨qr, hqr⟩ := (zq_rowAny hK hM v2).2.1
  rcases zq_isCut hK hC v1 with ⟨h1, h2⟩ | ⟨j, hj, rfl, h2⟩
  · rw [h2, (zq_cutRow hK hM v1).1 h1, hqr]; exact ⟨_, rfl, rfl⟩
  rw [h2, (zq_cutRow hK hM (nI j)).2 j hj rfl]
  have hm1 := zq_nm1 (n := 10 * zq_lv b + j) (by omega)
  rcases zq_isRough hK hC v2 with ⟨h3, h4⟩ | ⟨i, hi, rfl, h4⟩
  · rw [h4, (zq_roughRow hK hM v2).1 h3]
    simp only [Option.bind_some, if_neg zE_10, if_neg hm1]
    exact ⟨_, rfl, rfl⟩
  rw [h4, (zq_roughRow hK hM (nI i)).2 i hi rfl]
  have hm2 := zq_nm1 (n := 10 * zq_lv b + (6 + i)) (by omega)
  have okj := hK.2.2.2.2 j (Or.inl hj)
  have oki := hK.2.2.2.2 (6 + i) (Or.inr ⟨by omega, by omega⟩)
  obtain ⟨dcj, dxj⟩ := hC.2.2.2.2 j (Or.inl hj)
  obtain ⟨dci, -⟩ := hC.2.2.2.2 (6 + i) (Or.inr ⟨by omega, by omega⟩)
  have dmj := hM.2.2.2.2.2 j (Or.inl hj)
  have dmi := hM.2.2.2.2.2 (6 + i) (Or.inr ⟨by omega, by omega⟩)
  have hrj := zq_drk b b j (by omega)
  have hri := zq_drk b b (6 + i) (by omega)
  obtain ⟨r1, r2, r3, g1, g2, s2⟩ := zq_refC b (j := j) (by omega)
  obtain ⟨q1, q2, q3, q4⟩ := zq_refR b (j := i) (by omega)
  simp only [Option.bind_some, if_neg zE_10, if_pos zE_10, if_pos hm1, if_neg hm1, if_neg hm2, if_pos hm2]
  have innerC : ∀ y, y < 12 → zw_it (s_X10_places_33 1 (nI j) (nI i) (nI y) I (zE_R b)) 1000000 (nI (zq_pc (H.D j) (H.D (6 + i)) (12 * y)), 0) = some (nI (zq_pc (H.D j) (H.D (6 + i)) (12 * y + 12))) := by
    intro y hy
    refine zE_forE (fun x => (nI (zq_pc (H.D j) (H.D (6 + i)) (12 * y + x)), nI x)) _ 12 (fun x hx => ?_) ?_ (by decide)
    · unfold s_X10_places_33 j_X10_places_71_33
      simp only [if_neg (show ¬ (12 : Int32) ≤ nI x from nI_ge (b := 12) hx (by decide)), zE_gC, r1, r2, r3, g1, g2, s2, q1, q2, q3, q4, zw_g_t, zE_cl (k := j) (by omega), zE_cl (k := i) (by omega), zE_in (k := j) (n := 6) (by omega) (by decide), zE_in (k := i) (n := 4) (by omega) (by decide), hrj.1, hri.1, zw_let_e, nI_1]
      have e0 : zq_pc (H.D j) (H.D (6 + i)) (12 * y + (x + 1)) = if zq_fb (H.D j) (H.D (6 + i)) x y 0 12 = true then zq_pc (H.D j) (H.D (6 + i)) (12 * y + x) + 1 else zq_pc (H.D j) (H.D (6 + i)) (12 * y + x) := by
        show (if zq_fb (H.D j) (H.D (6 + i)) ((12 * y + x) % 12) ((12 * y + x) / 12) 0 12 = true then _ else _) = _
        rw [show (12 * y + x) % 12 = x by omega, show (12 * y + x) / 12 = y by omega]
        rfl
      rw [e0]
      rcases zq_liesC hrj hri okj oki dcj dxj dci hx hy with ⟨c1, c2⟩ | ⟨c1, c2⟩
      · rw [c1, if_pos (zq_fb1 c2), Option.bind_some, if_neg zE_10]
      · rw [c1, if_neg (by rw [zq_fb0 c2]; decide), Option.bind_some, if_pos rfl]
    · unfold s_X10_places_33
      rw [if_pos (show (12 : Int32) ≤ nI 12 by decide)]
  have outC : zw_it (s_X10_places_23 1 (nI j) (nI i) I (zE_R b)) 1000000 (0, 0) = some (nI (zq_pc (H.D j) (H.D (6 + i)) 144)) := by
    refine zE_forE (fun y => (nI (zq_pc (H.D j) (H.D (6 + i)) (12 * y)), nI y)) _ 12 (fun y hy => ?_) ?_ (by decide)
    · unfold s_X10_places_23
      simp only [if_neg (show ¬ (12 : Int32) ≤ nI y from nI_ge (b := 12) hy (by decide)), innerC y hy, Option.bind_some, zw_let_e, nI_1]
      rw [show 12 * (y + 1) = 12 * y + 12 by omega]
    · unfold s_X10_places_23
      rw [if_pos (show (12 : Int32) ≤ nI 12 by decide)]
  have outM : zw_it (s_X11_places_32 148 (nI (10 * zq_lv b + j)) (nI (10 * zq_lv b + (6 + i))) I (zE_R b)) 1000000 (0, 0) = some (nI (zq_pc (H.D j) (H.D (6 + i)) 144)) := by
    refine zE_forE (fun x => (nI (zq_pc (H.D j) (H.D (6 + i)) x), nI x)) _ 144 (fun x hx => ?_) ?_ (by decide)
    · have d1 : nI x / 12 = nI (x / 12) := pk_div (d := 12) (by omega) (by decide) (by decide)
      have d2 : nI x - nI (x / 12) * 12 = nI (x % 12) := by rw [← d1]; exact pk_rem (d := 12) (by omega) (by decide) (by decide)
      unfold s_X11_places_32 j_X11_places_66_32
      simp only [if_neg (show ¬ (144 : Int32) ≤ nI x from nI_ge (b := 144) hx (by decide)), zE_gM, zw_g_t, d1, d2, zw_let_e, nI_1]
      have e0 : zq_pc (H.D j) (H.D (6 + i)) (x + 1) = if zq_fb (H.D j) (H.D (6 + i)) (x % 12) (x / 12) 0 12 = true then zq_pc (H.D j) (H.D (6 + i)) x + 1 else zq_pc (H.D j) (H.D (6 + i)) x := rfl
      rw [e0]
      have eM : ∀ w, f_X11_lies 148 (nI (10 * zq_lv b + j)) (nI (10 * zq_lv b + (6 + i))) (nI (x % 12)) (nI (x / 12)) (nI 0) (nI 12) I (zE_R b) = w → f_X11_lies 148 (nI (10 * zq_lv b + j)) (nI (10 * zq_lv b + (6 + i))) (nI (x % 12)) (nI (x / 12)) 0 12 I (zE_R b) = w := fun w h => h
      rcases zq_liesM (sw := b) (k := 10 * zq_lv b + j) (kr := 10 * zq_lv b + (6 + i)) (by omega) (by omega) okj oki dmj dmi (show x % 12 < 12 by omega) (show x / 12 < 12 by omega) (Nat.zero_le 12) (Nat.le_refl 12) with ⟨c1, c2⟩ | ⟨c1, c2⟩
      · rw [eM _ c1, if_pos (zq_fb1 c2), Option.bind_some, if_neg zE_10]
      · rw [eM _ c1, if_neg (by rw [zq_fb0 c2]; decide), Option.bind_some, if_pos rfl]
    · unfold s_X11_places_32
      rw [if_pos (show (144 : Int32) ≤ nI 144 by decide)]
  rw [outC, outM]
  exact ⟨_, rfl, rfl⟩
/-- the first of 144 places at which F holds -/
def zq_fs (F : Nat → Bool) : Nat → Nat → Int32
  | 0, _ => -1
  | n + 1, i => if F i = true then nI i else zq_fs F n (i + 1)
def zq_isF (F : Nat → Bool) (r : Int32) : Prop := (r = -1 ∧ ∀ i, i < 144 → F i = false) ∨ ∃ i, i < 144 ∧ r = nI i ∧ F i = true ∧ ∀ j, j < i → F j = false
theorem zq_isF_u {F : Nat → Bool} {r r2 : Int32} (h : zq_isF F r) (h2 : zq_isF F r2) : r = r2 := by
  rcases h with ⟨a1, a2⟩ | ⟨i, hi, a1, a2, a3⟩ <;> rcases h2 with ⟨b1, b2⟩ | ⟨j, hj, b1, b2, b3⟩
  · rw [a1, b1]
  · rw [a2 j hj] at b2; cases b2
  · rw [b2 i hi] at a2; cases a2
  · rcases Nat.lt_trichotomy i j with h | h | h
    · rw [b3 i h] at a2; cases a2
    · rw [a1, b1, h]
    · rw [a3 j h] at b2; cases b2
theorem zq_fs_is (F : Nat → Bool) : ∀ n i, i + n = 144 → (∀ j, j < i → F j = false) → zq_isF F (zq_fs F n i)
  | 0, i, h, hj => Or.inl ⟨rfl, fun j hj2 => hj j (by omega)⟩
  | n + 1, i, h, hj => by
    unfold zq_fs
    by_cases hF : F i = true
    · rw [if_pos hF]; exact Or.inr ⟨i, by omega, rfl, hF, hj⟩
    · rw [if_neg hF]
      refine zq_fs_is F n (i + 1) (by omega) (fun j hj2 => ?_)
      by_cases h3 : j = i
      · rw [h3]; exact Bool.eq_false_iff.mpr hF
      · exact hj j (by omega)
noncomputable def zq_fp (d e : zq_D) (a b : Nat) : Int32 := zq_fs (fun i => zq_fb d e (i % 12) (i / 12) a b) 144 0
theorem zq_fp_is (d e : zq_D) (a b : Nat) : zq_isF (fun i => zq_fb d e (i % 12) (i / 12) a b) (zq_fp d e a b) := zq_fs_is _ 144 0 rfl (fun j hj => by omega)
theorem zq_fp_c (d e : zq_D) (a b : Nat) : zq_fp d e a b = -1 ∨ ∃ i, i < 144 ∧ zq_fp d e a b = nI i := by
  rcases zq_fp_is d e a b with ⟨h, -⟩ | ⟨i, hi, h, -⟩
  · exact Or.inl h
  · exact Or.inr ⟨i, hi, h⟩
theorem zq_fp_w {d e : zq_D} (okd : zq_ok d) (oke : zq_ok e) (a : Nat) : zq_fp d e a e.w = zq_fp d e a 12 := by
  have h : ∀ i, i < 144 → zq_fb d e (i % 12) (i / 12) a e.w = zq_fb d e (i % 12) (i / 12) a 12 := by
    intro i hi
    unfold zq_fb
    congr 1
    exact propext (zq_fb_w okd oke (by omega) (by omega))
  refine zq_isF_u (zq_fp_is d e a e.w) ?_
  rcases zq_fp_is d e a 12 with ⟨h1, h2⟩ | ⟨i, hi, h1, h2, h3⟩
  · exact Or.inl ⟨h1, fun i hi => (h i hi).trans (h2 i hi)⟩
  · exact Or.inr ⟨i, hi, h1, (h i hi).trans h2, fun j hj => (h j (by omega)).trans (h3 j hj)⟩
theorem zq_firstM {sw : Bool} {I : zI} {k kr : Nat} {d e : zq_D} (hk : k < 20) (hkr : kr < 20) (okd : zq_ok d) (oke : zq_ok e) (dmd : zq_DM I k d) (dme : zq_DM I kr e) {a b : Nat} (ha : a ≤ 12) (hb : b ≤ 12) : f_X11_firstPlace 148 (nI k) (nI kr) (nI a) (nI b) I (zE_R sw) = some (zq_fp d e a b) := by
  obtain ⟨r, l1, l2⟩ := zE_for (step := s_X11_firstPlace_3 148 (nI k) (nI kr) (nI a) (nI b) I (zE_R sw)) (fun i z => z = nI i ∧ ∀ j, j < i → zq_fb d e (j % 12) (j / 12) a b = false) (fun r => (r = .inl () ∧ ∀ j, j < 144 → zq_fb d e (j % 12) (j / 12) a b = false) ∨ ∃ i, i < 144 ∧ r = .inr (nI i) ∧ zq_fb d e (i % 12) (i / 12) a b = true ∧ ∀ j, j < i → zq_fb d e (j % 12) (j / 12) a b = false) 144 (by
    rintro i z hi ⟨rfl, e1⟩
    have d1 : nI i / 12 = nI (i / 12) := pk_div (d := 12) (by omega) (by decide) (by decide)
    have d2 : nI i - nI (i / 12) * 12 = nI (i % 12) := by rw [← d1]; exact pk_rem (d := 12) (by omega) (by decide) (by decide)
    unfold s_X11_firstPlace_3
    simp only [if_neg (show ¬ (144 : Int32) ≤ nI i from nI_ge (b := 144) hi (by decide)), zE_gM, zw_g_t, d1, d2, zw_let_e, nI_1]
    rcases zq_liesM (sw := sw) hk hkr okd oke dmd dme (show i % 12 < 12 by omega) (show i / 12 < 12 by omega) ha hb with ⟨c1, c2⟩ | ⟨c1, c2⟩
    · rw [c1, Option.bind_some, if_neg zE_10]
      exact Or.inr ⟨_, rfl, Or.inr ⟨i, hi, rfl, zq_fb1 c2, e1⟩⟩
    · rw [c1, Option.bind_some, if_pos rfl]
      refine Or.inl ⟨_, rfl, rfl, fun j hj => ?_⟩
      by_cases h3 : j = i
      · rw [h3]; exact zq_fb0 c2
      · exact e1 j (by omega)) (by
    rintro z ⟨rfl, e1⟩
    unfold s_X11_firstPlace_3
    rw [if_pos (show (144 : Int32) ≤ nI 144 by decide)]
    exact ⟨_, rfl, Or.inl ⟨rfl, e1⟩⟩) 0 0 (Nat.zero_le _) (by decide) ⟨rfl, fun j hj => by omega⟩
  unfold f_X11_firstPlace
  rw [l1]
  rcases l2 with ⟨rfl, h⟩ | ⟨i, hi, rfl, h1, h2⟩
  · exact congrArg some (zq_isF_u (Or.inl ⟨rfl, h⟩) (zq_fp_is d e a b))
  · exact congrArg some (zq_isF_u (Or.inr ⟨i, hi, rfl, h1, h2⟩) (zq_fp_is d e a b))
theorem zq_firstC {b : Bool} {I : zI} {o g : Nat} {d e : zq_D} (hro : zq_dr b o) (hrg : zq_dr b g) (okd : zq_ok d) (oke : zq_ok e) (dcd : zq_DC I o d) (dxd : zq_DX I o d) (dce : zq_DC I g e) {a c : Nat} (ha : a ≤ 12) (hc : c ≤ 12) : f_X10_firstPlace o g (nI a) (nI c) I (zE_R b) = some (zq_fp d e a c) := by
  have dw := okd.w2
  obtain ⟨-, -, f, l, r, i5, i6, i7, hl, hr, hall, ⟨yf, hyf, hyf2⟩, ⟨yl, hyl, hyl2⟩, -⟩ := id dxd
  have hfl := (hall l yl hl hyl hyl2).1
  have hfit : ∀ x y, zq_Fit d e x y a c ↔ (a ≤ x + f ∧ x + l < c) ∧ zq_Fit d e x y 0 12 := by
    intro x y
    refine ⟨fun h => ⟨⟨(h yf hyf f (by omega) hyf2).1, (h yl hyl l hl hyl2).2.1⟩, fun cy h1 cx h2 h3 => ?_⟩, fun h cy h1 cx h2 h3 => ?_⟩
    · obtain ⟨q1, q2, q3⟩ := h cy h1 cx h2 h3
      exact ⟨Nat.zero_le _, by omega, q3⟩
    · obtain ⟨q1, q2, q3⟩ := h.2 cy h1 cx h2 h3
      obtain ⟨a1, a2, a3⟩ := hall cx cy h2 h1 h3
      exact ⟨by omega, by omega, q3⟩
  have one : ∀ y, y < 12 → ∀ x, x < 12 → (s_X10_firstPlace_13 o g (nI a) (nI c) (nI y) I (zE_R b) (nI x) = some (.inl (nI (x + 1))) ∧ zq_fb d e x y a c = false) ∨ (s_X10_firstPlace_13 o g (nI a) (nI c) (nI y) I (zE_R b) (nI x) = some (.inr (.inr (nI x))) ∧ zq_fb d e x y a c = true) := by
    intro y hy x hx
    unfold s_X10_firstPlace_13 j_X10_firstPlace_46_13 j_X10_firstPlace_47_13 j_X10_firstPlace_75_13
    simp only [if_neg (show ¬ (12 : Int32) ≤ nI x from nI_ge (b := 12) hx (by decide)), hro.1, zw_g_t, i5, i6, nI_add, zw_let_e, nI_1, if_pos trivial, if_neg zE_10]
    by_cases c1 : x + f < a
    · rw [if_pos (nI_lt c1 (by omega))]
      exact Or.inl ⟨rfl, zq_fb0 (fun q => by have := ((hfit x y).mp q).1; omega)⟩
    rw [if_neg (nI_nlt (by omega) (by omega))]
    by_cases c2 : c ≤ x + l
    · rw [if_pos (nI_le c2 (by omega))]
      exact Or.inl ⟨rfl, zq_fb0 (fun q => by have := ((hfit x y).mp q).1; omega)⟩
    rw [if_neg (nI_ge (by omega) (by omega))]
    rcases zq_liesC hro hrg okd oke dcd dxd dce hx hy with ⟨h1, h2⟩ | ⟨h1, h2⟩
    · rw [h1, Option.bind_some, if_neg zE_10]
      exact Or.inr ⟨rfl, zq_fb1 ((hfit x y).mpr ⟨by omega, h2⟩)⟩
    · rw [h1, Option.bind_some, if_pos rfl]
      exact Or.inl ⟨rfl, zq_fb0 (fun q => h2 ((hfit x y).mp q).2)⟩
  have inner : ∀ y, y < 12 → (zw_it (s_X10_firstPlace_13 o g (nI a) (nI c) (nI y) I (zE_R b)) 1000000 0 = some (.inl ()) ∧ ∀ x, x < 12 → zq_fb d e x y a c = false) ∨ ∃ x, x < 12 ∧ zw_it (s_X10_firstPlace_13 o g (nI a) (nI c) (nI y) I (zE_R b)) 1000000 0 = some (.inr (nI x)) ∧ zq_fb d e x y a c = true ∧ ∀ j, j < x → zq_fb d e j y a c = false := by
    intro y hy
    obtain ⟨r, l1, l2⟩ := zE_for (step := s_X10_firstPlace_13 o g (nI a) (nI c) (nI y) I (zE_R b)) (fun i z => z = nI i ∧ ∀ j, j < i → zq_fb d e j y a c = false) (fun r => (r = .inl () ∧ ∀ x, x < 12 → zq_fb d e x y a c = false) ∨ ∃ x, x < 12 ∧ r = .inr (nI x) ∧ zq_fb d e x y a c = true ∧ ∀ j, j < x → zq_fb d e j y a c = false) 12 (by
      rintro i z hi ⟨rfl, e1⟩
      rcases one y hy i hi with ⟨h1, h2⟩ | ⟨h1, h2⟩
      · refine Or.inl ⟨_, h1, rfl, fun j hj => ?_⟩
        by_cases h3 : j = i
        · rw [h3]; exact h2
        · exact e1 j (by omega)
      · exact Or.inr ⟨_, h1, Or.inr ⟨i, hi, rfl, h2, e1⟩⟩) (by
      rintro z ⟨rfl, e1⟩
      unfold s_X10_firstPlace_13
      rw [if_pos (show (12 : Int32) ≤ nI 12 by decide)]
      exact ⟨_, rfl, Or.inl ⟨rfl, e1⟩⟩) 0 0 (Nat.zero_le _) (by decide) ⟨rfl, fun j hj => by omega⟩
    rcases l2 with ⟨rfl, h⟩ | ⟨x, hx, rfl, h1, h2⟩
    · exact Or.inl ⟨l1, h⟩
    · exact Or.inr ⟨x, hx, l1, h1, h2⟩
  obtain ⟨r, l1, l2⟩ := zE_for (step := s_X10_firstPlace_3 o g (nI a) (nI c) I (zE_R b)) (fun i z => z = nI i ∧ ∀ j, j < 12 * i → zq_fb d e (j % 12) (j / 12) a c = false) (fun r => (r = .inl () ∧ ∀ j, j < 144 → zq_fb d e (j % 12) (j / 12) a c = false) ∨ ∃ y x, y < 12 ∧ x < 12 ∧ r = .inr (nI y, nI x) ∧ zq_fb d e x y a c = true ∧ ∀ j, j < 12 * y + x → zq_fb d e (j % 12) (j / 12) a c = false) 12 (by
    rintro i z hi ⟨rfl, e1⟩
    unfold s_X10_firstPlace_3
    simp only [if_neg (show ¬ (12 : Int32) ≤ nI i from nI_ge (b := 12) hi (by decide)), zw_let_e, nI_1]
    rcases inner i hi with ⟨h1, h2⟩ | ⟨x, hx, h1, h2, h3⟩
    · rw [h1]
      refine Or.inl ⟨_, rfl, rfl, fun j hj => ?_⟩
      by_cases h4 : j < 12 * i
      · exact e1 j h4
      · have := h2 (j % 12) (by omega)
        rw [show j / 12 = i by omega]; exact this
    · rw [h1]
      refine Or.inr ⟨_, rfl, Or.inr ⟨i, x, hi, hx, rfl, h2, fun j hj => ?_⟩⟩
      by_cases h4 : j < 12 * i
      · exact e1 j h4
      · have := h3 (j % 12) (by omega)
        rw [show j / 12 = i by omega]; exact this) (by
    rintro z ⟨rfl, e1⟩
    unfold s_X10_firstPlace_3
    rw [if_pos (show (12 : Int32) ≤ nI 12 by decide)]
    exact ⟨_, rfl, Or.inl ⟨rfl, e1⟩⟩) 0 0 (Nat.zero_le _) (by decide) ⟨rfl, fun j hj => by omega⟩
  unfold f_X10_firstPlace
  rw [l1]
  rcases l2 with ⟨rfl, h⟩ | ⟨y, x, hy, hx, rfl, h1, h2⟩
  · exact congrArg some (zq_isF_u (Or.inl ⟨rfl, h⟩) (zq_fp_is d e a c))
  · show some (12 * nI y + nI x) = _
    rw [zq_n12]
    refine congrArg some (zq_isF_u (Or.inr ⟨12 * y + x, by omega, rfl, ?_, h2⟩) (zq_fp_is d e a c))
    show zq_fb d e ((12 * y + x) % 12) ((12 * y + x) / 12) a c = true
    rw [show (12 * y + x) % 12 = x by omega, show (12 * y + x) / 12 = y by omega]
    exact h1
