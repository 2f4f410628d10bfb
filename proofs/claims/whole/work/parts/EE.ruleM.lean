/-! ===== a GRADE, a PRICE, as the model reads them ===== -/
theorem zx_Wr {a : Nat} (h1 : 169 ≤ a) (h2 : a ≤ 172) : zx_W a = 16 := by
  unfold zx_W
  rw [if_neg (by omega), if_neg (by omega), if_neg (by omega), if_neg (by omega), if_pos (by omega)]
theorem zx_lv16 {b : Bool} {W k : Nat} (hk : k < W) : zq_lv b * W ≤ W * zq_lv b + k ∧ W * zq_lv b + k < (zq_lv b + 1) * W := by
  cases b
  · show 0 * W ≤ W * 0 + k ∧ W * 0 + k < (0 + 1) * W
    omega
  · show 1 * W ≤ W * 1 + k ∧ W * 1 + k < (1 + 1) * W
    omega
theorem zx_uv {b : Bool} {I : zI} (h : I 148 19 = nI (zq_lv b)) : zm_u I = 520 * (zq_lv b + 1) ∧ zm_v I = 200 * (zq_lv b + 1) := by
  have := zq_lv1 b
  unfold zm_u zm_v
  rw [h, zE_cl (by omega)]
  exact ⟨rfl, rfl⟩
/-- a frame of a rule's reading is one of the side -/
theorem zx_Fm_Fr {b : Bool} {I0 I I2 : zI} {m l : Nat} (h : zx_Fm b I0 I) (h19 : I 148 19 = nI (zq_lv b)) (hm : 520 * zq_lv b ≤ m) (hl : 200 * zq_lv b ≤ l) (fr : zm_Fr I I2 m l) : zx_Fm b I0 I2 := by
  obtain ⟨u1, u2⟩ := zx_uv h19
  refine ⟨fun a x1 x2 => by rw [fr.1 a x1 (by omega)]; exact h.1 a x1 x2, fun y hy => ?_, fun a i x1 x2 x3 x4 => ?_⟩
  · have hz : y ≠ 11 ∧ y ≠ 12 ∧ y ≠ 13 ∧ y ≠ 14 ∧ y ≠ 37 ∧ y ≠ 44 ∧ y ≠ 48 := by unfold zx_fd at hy; omega
    rw [fr.2.1 y hz.1 hz.2.1 hz.2.2.1 hz.2.2.2.1 hz.2.2.2.2.1 hz.2.2.2.2.2.1 hz.2.2.2.2.2.2]
    exact h.2.1 y hy
  · have out : ∀ W M : Nat, W * zq_lv b ≤ M → zq_lv (!b) * W ≤ i → i < (zq_lv (!b) + 1) * W → (i < M ∨ W * (zq_lv b + 1) ≤ i) := by
      intro W M h1 h2 h3
      cases b
      · have h2 : 1 * W ≤ i := h2
        right
        show W * (0 + 1) ≤ i
        omega
      · have h1 : W * 1 ≤ M := h1
        have h3 : i < (0 + 1) * W := h3
        left
        omega
    by_cases c1 : 173 ≤ a ∧ a ≤ 178
    · have w : zx_W a = 200 := by
        unfold zx_W
        rw [if_neg (by omega), if_neg (by omega), if_neg (by omega), if_neg (by omega), if_neg (by omega), if_pos c1]
      rw [w] at x3 x4
      have o := out 200 l hl x3 x4
      rw [fr.2.2.2 a i c1.1 c1.2 (by omega)]
      rw [← w] at x3 x4
      exact h.2.2 a i x1 x2 x3 x4
    · by_cases c2 : a = 179 ∨ a = 180
      · have w : zx_W a = 520 := by
          unfold zx_W
          rw [if_neg (by omega), if_neg (by omega), if_neg (by omega), if_neg (by omega), if_neg (by omega), if_neg (by omega), if_pos c2]
        rw [w] at x3 x4
        have o := out 520 m hm x3 x4
        have e := fr.2.2.1 i (by omega)
        rw [← w] at x3 x4
        have e2 := h.2.2 a i x1 x2 x3 x4
        rcases c2 with rfl | rfl
        · exact e.1.trans e2
        · exact e.2.trans e2
      · rw [fr.1 a (by omega) (by omega)]
        exact h.2.2 a i x1 x2 x3 x4
theorem zx_cl_Fr {b : Bool} {I I2 : zI} {m l : Nat} (h19 : I 148 19 = nI (zq_lv b)) (fr : zm_Fr I I2 m l) : zx_cl (zq_lv b) I I2 m l := by
  obtain ⟨u1, u2⟩ := zx_uv h19
  exact ⟨fun i _ hi => fr.2.2.1 i (Or.inl hi), fun a i x1 x2 _ hi => fr.2.2.2 a i x1 x2 (Or.inl hi)⟩
/-- the state behind such a reading -/
theorem zx_M_Fr {b : Bool} {T : Nat → Nat} {n : Nat} {I0 I I2 : zI} {J : zJ} {t t2 m l m2 l2 : Nat} {σ : zx_S} (h : zx_M b T n I0 I J t σ) (h44 : I 148 44 = nI m) (h37 : I 148 37 = nI l) (hm5 : m < 2 ^ 31) (hl5 : l < 2 ^ 31) (ht5 : t ≤ 500) (fr : zm_Fr I I2 m l) (k13 : I2 148 13 = 0) (k11 : I2 148 11 = nI t2) (k12 : I2 148 12 = 0) (k44 : I2 148 44 = nI m2) (k37 : I2 148 37 = nI l2) (hm : m ≤ m2) (hm2 : m2 + t ≤ m + t2) (hl : l ≤ l2) (hl2 : 3 * l2 + t ≤ 3 * l + t2) : zx_M b T n I0 I2 J t2 σ := by
  have hlv := zq_lv1 b
  obtain ⟨a1, ⟨b1, b2, b3, b4, b5, p, b6, b7, b8⟩, a3, a4, a5, ⟨c1, c2, c3, c4, c5⟩, m', l', d1, d2, d3, d4, d5, d6, d7⟩ := h
  have em : m' = m := (nI_eq (by omega) hm5).mp (d1.symm.trans h44)
  have el : l' = l := (nI_eq (by omega) hl5).mp (d2.symm.trans h37)
  subst em el
  have fy : ∀ y, y ≠ 11 → y ≠ 12 → y ≠ 13 → y ≠ 14 → y ≠ 37 → y ≠ 44 → y ≠ 48 → I2 148 y = I 148 y := fr.2.1
  have fa : ∀ a, a ≠ 148 → ¬ (173 ≤ a ∧ a ≤ 181) → I2 a = I a := fr.1
  refine ⟨zx_Fm_Fr a1 b4 d3 d5 fr, ⟨k13, k11, k12, (fy 19 (by decide) (by decide) (by decide) (by decide) (by decide) (by decide) (by decide)).trans b4, (fy 15 (by decide) (by decide) (by decide) (by decide) (by decide) (by decide) (by decide)).trans b5, p, b6, (fy 16 (by decide) (by decide) (by decide) (by decide) (by decide) (by decide) (by decide)).trans b7, b8⟩, zp_Y_tr a3 (fa 151 (by decide) (by decide)) (fa 152 (by decide) (by decide)) (fa 153 (by decide) (by decide)) rfl, zt_TM_tr a4 (fy 4 (by decide) (by decide) (by decide) (by decide) (by decide) (by decide) (by decide)) (fa 150 (by decide) (by decide)), zx_NM_tr a5 (fa 156 (by decide) (by decide)), ⟨by rw [fa 158 (by decide) (by decide)]; exact c1, by rw [fa 162 (by decide) (by decide)]; exact c2, by rw [fa 163 (by decide) (by decide)]; exact c3, by rw [fa 167 (by decide) (by decide)]; exact c4, by rw [fa 168 (by decide) (by decide)]; exact c5⟩, m2, l2, k44, k37, by omega, by omega, by omega, by omega, fun q => ?_⟩
  obtain ⟨e1, e2, e3⟩ := d7 q
  refine ⟨fun k hk => ?_, fun k hk => ⟨(e2 k hk).1, zq_DM_tr (e2 k hk).2 (fa 164 (by decide) (by decide)) (fa 165 (by decide) (by decide)) (fa 166 (by decide) (by decide))⟩, fun k hk => zx_rm_tr (e3 k hk) (fun a x1 x2 => by rw [fa a (by omega) (by omega)]) (zx_cl_Fr b4 fr) hm hl⟩
  rw [fa 159 (by decide) (by decide), fa 160 (by decide) (by decide), fa 161 (by decide) (by decide)]
  exact e1 k hk
theorem zx_MF_D {b : Bool} {T : Nat → Nat} {n : Nat} {I0 I I2 : zI} {J : zJ} {t m l : Nat} {y : Nat × Nat} {σ : zx_S} (h : zx_M b T n I0 I J t σ) (h44 : I 148 44 = nI m) (h37 : I 148 37 = nI l) (hm5 : m < 2 ^ 31) (hl5 : l < 2 ^ 31) (ht5 : t ≤ 500) (hD : zm_D T n I I2 m l y) : zx_MF b T n I0 I2 y.1 y.2 := by
  have hlv := zq_lv1 b
  obtain ⟨a1, ⟨b1, b2, b3, b4, -, p, b6, b7, -⟩, -, -, -, -, m', l', d1, d2, d3, d4, d5, d6, -⟩ := h
  have em : m' = m := (nI_eq (by omega) hm5).mp (d1.symm.trans h44)
  have el : l' = l := (nI_eq (by omega) hl5).mp (d2.symm.trans h37)
  subst em el
  obtain ⟨fr, g2, g3, g4, t2, g5, g6⟩ := hD
  exact ⟨zx_Fm_Fr a1 b4 d3 d5 fr, g2, g3, g4, (fr.2.1 19 (by decide) (by decide) (by decide) (by decide) (by decide) (by decide) (by decide)).trans b4, t2, g5, g6, p, b6, (fr.2.1 16 (by decide) (by decide) (by decide) (by decide) (by decide) (by decide) (by decide)).trans b7⟩
/-- a rule that isn't told yet is written -/
theorem zx_M_w {b : Bool} {T : Nat → Nat} {n : Nat} {I0 I : zI} {J : zJ} {t a k : Nat} {σ : zx_S} (h : zx_M b T n I0 I J t σ) (h1 : 169 ≤ a) (h2 : a ≤ 172) (hk : k < 16) (hn : ¬ zr_has σ.2.1 k) (v : Int32) : zx_M b T n I0 (zw_u I a (16 * zq_lv b + k) v) J t σ := by
  obtain ⟨a1, ⟨b1, b2, b3, b4, b5, p, b6, b7, b8⟩, a3, a4, a5, ⟨c1, c2, c3, c4, c5⟩, m, l, d1, d2, d3, d4, d5, d6, d7⟩ := h
  have f : ∀ c, c ≠ a → zw_u I a (16 * zq_lv b + k) v c = I c := fun c hc => zw_u_off _ _ _ hc
  have w := zx_Wr h1 h2
  have lw := zx_lv16 (b := b) (W := 16) hk
  have f8 : zw_u I a (16 * zq_lv b + k) v 148 = I 148 := f 148 (by omega)
  refine ⟨a1.w v (by omega) (by omega) (by rw [w]; exact lw.1) (by rw [w]; exact lw.2), ⟨by rw [f8]; exact b1, by rw [f8]; exact b2, by rw [f8]; exact b3, by rw [f8]; exact b4, by rw [f8]; exact b5, p, b6, by rw [f8]; exact b7, b8⟩, zp_Y_tr a3 (f 151 (by omega)) (f 152 (by omega)) (f 153 (by omega)) rfl, zt_TM_tr a4 (by rw [f8]) (f 150 (by omega)), zx_NM_tr a5 (f 156 (by omega)), ⟨by rw [f 158 (by omega)]; exact c1, by rw [f 162 (by omega)]; exact c2, by rw [f 163 (by omega)]; exact c3, by rw [f 167 (by omega)]; exact c4, by rw [f 168 (by omega)]; exact c5⟩, m, l, by rw [f8]; exact d1, by rw [f8]; exact d2, d3, d4, d5, d6, fun q => ?_⟩
  obtain ⟨e1, e2, e3⟩ := d7 q
  refine ⟨fun j hj => ?_, fun j hj => ⟨(e2 j hj).1, zq_DM_tr (e2 j hj).2 (f 164 (by omega)) (f 165 (by omega)) (f 166 (by omega))⟩, fun j hj => zx_rm_tr (e3 j hj) (fun c x1 x2 => ?_) (zx_cl_eq (fun c x1 x2 => f c (by omega))) (Nat.le_refl _) (Nat.le_refl _)⟩
  · rw [f 159 (by omega), f 160 (by omega), f 161 (by omega)]
    exact e1 j hj
  · have jk : j ≠ k := fun e => hn (by rw [← e]; exact hj)
    rw [zE_u2 _ _ (by omega)]
/-- what a rule told so far is -/
def zx_rd (b : Bool) (I : zI) (m l k : Nat) (f l0 : Nat) (e : List zr_C) (ls : List zr_L) : Prop := I 169 (16 * zq_lv b + k) = nI f ∧ I 170 (16 * zq_lv b + k) = nI (f + e.length) ∧ (520 * zq_lv b ≤ f ∧ f + e.length ≤ m) ∧ zr_sg (I 179) (I 180) f e ∧ I 171 (16 * zq_lv b + k) = nI l0 ∧ l = l0 + ls.length ∧ ∀ I3, zx_cl (zq_lv b) I I3 m l → zr_LsM I3 l0 ls
/-- its end -/
theorem zx_133M {sw b : Bool} {T : Nat → Nat} {n : Nat} {I0 I : zI} {J : zJ} {t m l k f l0 : Nat} {σ : zx_S} {e : List zr_C} {ls : List zr_L} {v2 : Int32} {Q2 : zr_Q} (h : zx_M b T n I0 I J t σ) (h44 : I 148 44 = nI m) (h37 : I 148 37 = nI l) (hm5 : m < 2 ^ 31) (hl5 : l < 2 ^ 31) (ht : t ≤ 500) (hg : zt_go T n t) (hk : k < 16) (hn : ¬ zr_has σ.2.1 k) (hrd : zx_rd b I m l k f l0 e ls) (hnew : ∀ k2, zr_has Q2 k2 → (k2 = k ∧ Q2.2.2.1 k2 = e ∧ Q2.2.2.2 k2 = ls) ∨ (k2 ≠ k ∧ zr_has σ.2.1 k2 ∧ Q2.2.2.1 k2 = σ.2.1.2.2.1 k2 ∧ Q2.2.2.2 k2 = σ.2.1.2.2.2 k2)) (hv : (v2 = 0 ∧ Q2.1 = σ.2.1.1 + 1 ∧ Q2.2.1 = σ.2.1.2.1) ∨ (v2 = 1 ∧ Q2.1 = σ.2.1.1 ∧ Q2.2.1 = σ.2.1.2.1 + 1)) : ∃ I2, j_X11_tellRule_133 148 (nI (16 * zq_lv b + k)) v2 I (zE_R sw) J = some (I2, J) ∧ zx_RM b T n I0 I2 J (zx_need (zt_K T n) 5 t (.inl (t + 1, (σ.1, Q2, σ.2.2.1, σ.2.2.2)))) := by
  have hlv := zq_lv1 b
  have ij : zw_in (nI (16 * zq_lv b + k)) 32 = true := zE_in (by omega) (by decide)
  have cj : Int32.toNatClampNeg (nI (16 * zq_lv b + k)) = 16 * zq_lv b + k := zE_cl (by omega)
  rcases zx_mustM (sw := sw) (kc := 5) (kv := 4) h ht hg (by decide) rfl with ⟨c1, c2, I1, m1, m2⟩ | ⟨c1, I1, m1, m2⟩
  · have tk := zm_must (sw := sw) (kc := 5) (kv := 4) h.2.2.1 (zx_T0 h) ht hg (by decide) rfl
    obtain ⟨I1', n1, n2⟩ := tk
    have e1 : I1' = I1 := by rw [m1] at n1; cases n1; rfl
    subst e1
    have n2 : zm_T T n I I1' (t + 1) (0, 0) := by
      rcases n2 with n2 | n2
      · exact n2.2.2
      · exact absurd ⟨c1, c2⟩ n2.1
    have fa : ∀ a, a ≠ 148 → I1' a = I a := n2.1
    have k44 : I1' 148 44 = nI m := (n2.2.2.2.2 44 (by decide) (by decide) (by decide)).trans h44
    have k37 : I1' 148 37 = nI l := (n2.2.2.2.2 37 (by decide) (by decide) (by decide)).trans h37
    have M2 := zx_M_w m2 (a := 172) (by decide) (by decide) hk hn (nI l)
    obtain ⟨I3, e3⟩ : ∃ I3, I3 = zw_u I1' 172 (16 * zq_lv b + k) (nI l) := ⟨_, rfl⟩
    rw [← e3] at M2
    have f3 : ∀ a, a ≠ 172 → I3 a = I1' a := fun a ha => by rw [e3, zw_u_off _ _ _ ha]
    obtain ⟨r1, r2, r3, r4, r5, r6, r7⟩ := hrd
    have RM : zx_rm (zq_lv b) I3 m l (16 * zq_lv b + k) e ls := by
      refine ⟨f, l0, ?_, ?_, r3, ?_, ?_, ?_, by omega, fun I4 h4 => r7 I4 (zx_cl_tr (zx_cl_eq (fun a x1 x2 => by rw [f3 a (by omega), fa a (by omega)])) h4 (Nat.le_refl _) (Nat.le_refl _))⟩
      · rw [f3 169 (by decide), fa 169 (by decide)]; exact r1
      · rw [f3 170 (by decide), fa 170 (by decide)]; exact r2
      · rw [f3 179 (by decide), f3 180 (by decide), fa 179 (by decide), fa 180 (by decide)]; exact r4
      · rw [f3 171 (by decide), fa 171 (by decide)]; exact r5
      · rw [e3, zE_u1, r6]
    -- the count
    have fin : ∀ (c : Nat) (I5 : zI), (c = 167 ∨ c = 168) → I5 = zw_u I3 c (zq_lv b) (nI (if c = 167 then σ.2.1.1 + 1 else σ.2.1.2.1 + 1)) → Q2.1 = (if c = 167 then σ.2.1.1 + 1 else σ.2.1.1) → Q2.2.1 = (if c = 167 then σ.2.1.2.1 else σ.2.1.2.1 + 1) → zx_M b T n I0 I5 J (t + 1) (σ.1, Q2, σ.2.2.1, σ.2.2.2) := by
      intro c I5 hc e5 q1 q2
      obtain ⟨a1, ⟨b1, b2, b3, b4, b5, p, b6, b7, b8⟩, a3, a4, a5, ⟨c1, c2, c3, c4, c5⟩, m', l', d1, d2, d3, d4, d5, d6, d7⟩ := M2
      have g44 : I3 148 44 = nI m := by rw [f3 148 (by decide)]; exact k44
      have g37 : I3 148 37 = nI l := by rw [f3 148 (by decide)]; exact k37
      have em : m' = m := (nI_eq (by omega) hm5).mp (d1.symm.trans g44)
      have el : l' = l := (nI_eq (by omega) hl5).mp (d2.symm.trans g37)
      subst em el
      have ff : ∀ a, a ≠ c → I5 a = I3 a := fun a ha => by rw [e5, zw_u_off _ _ _ ha]
      have f8 : I5 148 = I3 148 := ff 148 (by omega)
      have w : zx_W c = 1 := by rcases hc with rfl | rfl <;> rfl
      have lw := zx_lv16 (b := b) (W := 1) (k := 0) (by decide)
      have F5 : zx_Fm b I0 I5 := by
        rw [e5]
        exact a1.w _ (by omega) (by omega) (by rw [w]; omega) (by rw [w]; omega)
      refine ⟨F5, ⟨by rw [f8]; exact b1, by rw [f8]; exact b2, by rw [f8]; exact b3, by rw [f8]; exact b4, by rw [f8]; exact b5, p, b6, by rw [f8]; exact b7, b8⟩, zp_Y_tr a3 (ff 151 (by omega)) (ff 152 (by omega)) (ff 153 (by omega)) rfl, zt_TM_tr a4 (by rw [f8]) (ff 150 (by omega)), zx_NM_tr a5 (ff 156 (by omega)), ⟨by rw [ff 158 (by omega)]; exact c1, by rw [ff 162 (by omega)]; exact c2, by rw [ff 163 (by omega)]; exact c3, ?_, ?_⟩, m', l', by rw [f8]; exact d1, by rw [f8]; exact d2, d3, d4, d5, d6, fun q => ?_⟩
      · show I5 167 (zq_lv b) = nI Q2.1
        rcases hc with rfl | rfl
        · rw [q1, if_pos rfl, e5, zE_u1, if_pos rfl]
        · rw [q1, if_neg (by decide), ff 167 (by decide)]; exact c4
      · show I5 168 (zq_lv b) = nI Q2.2.1
        rcases hc with rfl | rfl
        · rw [q2, if_pos rfl, ff 168 (by decide)]; exact c5
        · rw [q2, if_neg (by decide), e5, zE_u1, if_neg (by decide)]
      · obtain ⟨e1, e2, e3'⟩ := d7 q
        refine ⟨fun j hj => ?_, fun j hj => ⟨(e2 j hj).1, zq_DM_tr (e2 j hj).2 (ff 164 (by omega)) (ff 165 (by omega)) (ff 166 (by omega))⟩, fun j hj => ?_⟩
        · rw [ff 159 (by omega), ff 160 (by omega), ff 161 (by omega)]
          exact e1 j hj
        · have tr : ∀ {j2 : Nat} {e : List zr_C} {ls : List zr_L}, zx_rm (zq_lv b) I3 m' l' j2 e ls → zx_rm (zq_lv b) I5 m' l' j2 e ls := fun hh => zx_rm_tr hh (fun a x1 x2 => by rw [ff a (by omega)]) (zx_cl_eq (fun a x1 x2 => ff a (by omega))) (Nat.le_refl _) (Nat.le_refl _)
          show zx_rm (zq_lv b) I5 m' l' (16 * zq_lv b + j) (Q2.2.2.1 j) (Q2.2.2.2 j)
          rcases hnew j hj with ⟨z1, z2, z3⟩ | ⟨z1, z2, z3, z4⟩
          · rw [z2, z3, z1]; exact tr RM
          · rw [z3, z4]; exact tr (e3' j z2)
    unfold j_X11_tellRule_133 zx_need
    rw [if_pos (show zt_K T n t = 5 ∧ t < 500 from ⟨c1, c2⟩)]
    have k13 : I3 148 13 = 0 := by rw [f3 148 (by decide)]; exact m2.2.1.1
    have k19 : I3 148 19 = nI (zq_lv b) := by rw [f3 148 (by decide)]; exact m2.2.1.2.2.2.1
    have k167 : I3 167 (zq_lv b) = nI σ.2.1.1 := M2.2.2.2.2.2.1.2.2.2.1
    have k168 : I3 168 (zq_lv b) = nI σ.2.1.2.1 := M2.2.2.2.2.2.1.2.2.2.2
    simp only [zE_gM, zE_rM sw, zE_sM, zw_g_t, zw_let_e, m1, Option.bind_some, ij, cj, k37, ← e3]
    rw [if_pos (show I3 148 13 ≤ 0 by rw [k13]; decide), k19, zE_in (show zq_lv b < 2 from hlv) (by decide), zE_cl (show zq_lv b < 2 ^ 31 by omega), k167, k168]
    simp only [zw_g_t, nI_1]
    rcases hv with ⟨rfl, q1, q2⟩ | ⟨rfl, q1, q2⟩
    · rw [if_pos rfl]
      exact ⟨_, rfl, fin 167 _ (Or.inl rfl) rfl (by rw [q1, if_pos rfl]) (by rw [q2, if_pos rfl])⟩
    · rw [if_neg zE_10]
      exact ⟨_, rfl, fin 168 _ (Or.inr rfl) rfl (by rw [q1, if_neg (by decide)]) (by rw [q2, if_neg (by decide)])⟩
  · unfold zx_need
    rw [if_neg c1]
    have w := zx_Wr (a := 172) (by decide) (by decide)
    have lw := zx_lv16 (b := b) (W := 16) hk
    have F := m2.w (a := 172) (i := 16 * zq_lv b + k) (I1 148 37) (by decide) (by decide) (by rw [w]; exact lw.1) (by rw [w]; exact lw.2)
    refine ⟨_, ?_, F⟩
    unfold j_X11_tellRule_133
    simp only [zE_gM, zE_rM sw, zE_sM, zw_g_t, zw_let_e, m1, Option.bind_some, ij, cj]
    rw [if_neg F.ne.2]
theorem zx_133G {sw b : Bool} {T : Nat → Nat} {n : Nat} {I0 I : zI} {J : zJ} {k f e : Nat} {v2 : Int32} (h : zx_MF b T n I0 I f e) (hk : k < 16) : ∃ I2, j_X11_tellRule_133 148 (nI (16 * zq_lv b + k)) v2 I (zE_R sw) J = some (I2, J) ∧ zx_MF b T n I0 I2 f e := by
  have hlv := zq_lv1 b
  have w := zx_Wr (a := 172) (by decide) (by decide)
  have lw := zx_lv16 (b := b) (W := 16) hk
  have F := h.w (a := 172) (i := 16 * zq_lv b + k) (I 148 37) (by decide) (by decide) (by rw [w]; exact lw.1) (by rw [w]; exact lw.2)
  refine ⟨_, ?_, F⟩
  unfold j_X11_tellRule_133
  simp only [zE_gM, zE_rM sw, zE_sM, zw_g_t, zw_let_e, h.must, Option.bind_some, zE_in (show 16 * zq_lv b + k < 32 by omega) (by decide), zE_cl (show 16 * zq_lv b + k < 2 ^ 31 by omega)]
  rw [if_neg F.ne.2]
theorem zx_74F {sw b : Bool} {T : Nat → Nat} {n : Nat} {I0 I : zI} {J : zJ} {k f e : Nat} {v2 v3 : Int32} (h : zx_MF b T n I0 I f e) (hk : k < 16) (hv3 : v3 = 0 ∨ v3 = 1) : ∃ I2, j_X11_tellRule_74 148 (nI (16 * zq_lv b + k)) v2 v3 I (zE_R sw) J = some (I2, J) ∧ zx_MF b T n I0 I2 f e := by
  unfold j_X11_tellRule_74
  rcases hv3 with rfl | rfl
  · rw [show zw_it (s_X11_tellRule_77 148 (nI (16 * zq_lv b + k)) v2 (zE_R sw) J) 1000000 (0, 1, I) = some I from zm_s77 999999, Option.bind_some]
    exact zx_133G h hk
  · rw [show zw_it (s_X11_tellRule_77 148 (nI (16 * zq_lv b + k)) v2 (zE_R sw) J) 1000000 (1, 1, I) = some I from zm_s77D 999999 h.ne.1, Option.bind_some]
    exact zx_133G h hk
