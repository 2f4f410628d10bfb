/-! ===== light: what the model does ===== -/
def zq_LM (I0 I : zI) (n : Nat) (tr s : Nat → Int32) (st gv : Int32) : Prop := (∀ a, a ≠ 148 → a ≠ 184 → a ≠ 185 → a ≠ 186 → I a = I0 a) ∧ (∀ y, (y < 54 ∨ 59 < y) → I 148 y = I0 148 y) ∧ (∀ j, j < 4 → I 184 j = s j) ∧ I 148 54 = s 4 ∧ I 148 55 = s 5 ∧ I 148 56 = s 6 ∧ I 148 57 = st ∧ I 148 58 = s 7 ∧ I 148 59 = gv ∧ (∀ j, j < 12 → I 185 j = s (8 + j)) ∧ ∀ j, j < n → I 186 j = tr j
theorem zq_LM.out {I0 I : zI} {n : Nat} {tr s : Nat → Int32} {st gv : Int32} (h : zq_LM I0 I n tr s st gv) (j : Nat) (hj : j < 4) (v : Int32) : zq_LM I0 (zw_u I 184 j (I 184 j + v)) n tr (zq_add s j v) st gv := by
  obtain ⟨h1, h2, h3, h4, h5, h6, h7, h8, h9, h10, h11⟩ := h
  exact ⟨fun a a1 a2 a3 a4 => (zw_u_off _ _ _ (by omega)).trans (h1 a a1 a2 a3 a4), fun y hy => (zE_u2 _ _ (by omega)).trans (h2 y hy), fun i hi => by
    by_cases c : i = j
    · subst c; rw [zE_u1, zq_add_s, h3 i hi]
    · rw [zE_u2 _ _ (by omega), zq_add_o _ _ c]; exact h3 i hi, by rw [zE_u2 _ _ (by omega), zq_add_o _ _ (by omega)]; exact h4, by rw [zE_u2 _ _ (by omega), zq_add_o _ _ (by omega)]; exact h5, by rw [zE_u2 _ _ (by omega), zq_add_o _ _ (by omega)]; exact h6, (zE_u2 _ _ (by omega)).trans h7, by rw [zE_u2 _ _ (by omega), zq_add_o _ _ (by omega)]; exact h8, (zE_u2 _ _ (by omega)).trans h9, fun i hi => by rw [zE_u2 _ _ (by omega), zq_add_o _ _ (by omega)]; exact h10 i hi, fun i hi => (zE_u2 _ _ (by omega)).trans (h11 i hi)⟩
theorem zq_LM.up {I0 I : zI} {n : Nat} {tr s : Nat → Int32} {st gv : Int32} (h : zq_LM I0 I n tr s st gv) (j : Nat) (hj : j < 12) (v : Int32) : zq_LM I0 (zw_u I 185 j (I 185 j + v)) n tr (zq_add s (8 + j) v) st gv := by
  obtain ⟨h1, h2, h3, h4, h5, h6, h7, h8, h9, h10, h11⟩ := h
  exact ⟨fun a a1 a2 a3 a4 => (zw_u_off _ _ _ (by omega)).trans (h1 a a1 a2 a3 a4), fun y hy => (zE_u2 _ _ (by omega)).trans (h2 y hy), fun i hi => by rw [zE_u2 _ _ (by omega), zq_add_o _ _ (by omega)]; exact h3 i hi, by rw [zE_u2 _ _ (by omega), zq_add_o _ _ (by omega)]; exact h4, by rw [zE_u2 _ _ (by omega), zq_add_o _ _ (by omega)]; exact h5, by rw [zE_u2 _ _ (by omega), zq_add_o _ _ (by omega)]; exact h6, (zE_u2 _ _ (by omega)).trans h7, by rw [zE_u2 _ _ (by omega), zq_add_o _ _ (by omega)]; exact h8, (zE_u2 _ _ (by omega)).trans h9, fun i hi => by
    by_cases c : i = j
    · subst c; rw [zE_u1, zq_add_s, h10 i hi]
    · rw [zE_u2 _ _ (by omega), zq_add_o _ _ (by omega)]; exact h10 i hi, fun i hi => (zE_u2 _ _ (by omega)).trans (h11 i hi)⟩
theorem zq_LM.gl {I0 I : zI} {n : Nat} {tr s : Nat → Int32} {st gv : Int32} (h : zq_LM I0 I n tr s st gv) (v : Int32) : zq_LM I0 (zw_u I 148 54 (I 148 54 + v)) n tr (zq_add s 4 v) st gv := by
  obtain ⟨h1, h2, h3, h4, h5, h6, h7, h8, h9, h10, h11⟩ := h
  exact ⟨fun a a1 a2 a3 a4 => (zw_u_off _ _ _ (by omega)).trans (h1 a a1 a2 a3 a4), fun y hy => (zE_u2 _ _ (by omega)).trans (h2 y hy), fun i hi => by rw [zE_u2 _ _ (by omega), zq_add_o _ _ (by omega)]; exact h3 i hi, by rw [zE_u1, zq_add_s, h4], by rw [zE_u2 _ _ (by omega), zq_add_o _ _ (by omega)]; exact h5, by rw [zE_u2 _ _ (by omega), zq_add_o _ _ (by omega)]; exact h6, (zE_u2 _ _ (by omega)).trans h7, by rw [zE_u2 _ _ (by omega), zq_add_o _ _ (by omega)]; exact h8, (zE_u2 _ _ (by omega)).trans h9, fun i hi => by rw [zE_u2 _ _ (by omega), zq_add_o _ _ (by omega)]; exact h10 i hi, fun i hi => (zE_u2 _ _ (by omega)).trans (h11 i hi)⟩
theorem zq_LM.ea {I0 I : zI} {n : Nat} {tr s : Nat → Int32} {st gv : Int32} (h : zq_LM I0 I n tr s st gv) (v : Int32) : zq_LM I0 (zw_u I 148 55 (I 148 55 + v)) n tr (zq_add s 5 v) st gv := by
  obtain ⟨h1, h2, h3, h4, h5, h6, h7, h8, h9, h10, h11⟩ := h
  exact ⟨fun a a1 a2 a3 a4 => (zw_u_off _ _ _ (by omega)).trans (h1 a a1 a2 a3 a4), fun y hy => (zE_u2 _ _ (by omega)).trans (h2 y hy), fun i hi => by rw [zE_u2 _ _ (by omega), zq_add_o _ _ (by omega)]; exact h3 i hi, by rw [zE_u2 _ _ (by omega), zq_add_o _ _ (by omega)]; exact h4, by rw [zE_u1, zq_add_s, h5], by rw [zE_u2 _ _ (by omega), zq_add_o _ _ (by omega)]; exact h6, (zE_u2 _ _ (by omega)).trans h7, by rw [zE_u2 _ _ (by omega), zq_add_o _ _ (by omega)]; exact h8, (zE_u2 _ _ (by omega)).trans h9, fun i hi => by rw [zE_u2 _ _ (by omega), zq_add_o _ _ (by omega)]; exact h10 i hi, fun i hi => (zE_u2 _ _ (by omega)).trans (h11 i hi)⟩
theorem zq_LM.re {I0 I : zI} {n : Nat} {tr s : Nat → Int32} {st gv : Int32} (h : zq_LM I0 I n tr s st gv) (v : Int32) : zq_LM I0 (zw_u I 148 56 (I 148 56 + v)) n tr (zq_add s 6 v) st gv := by
  obtain ⟨h1, h2, h3, h4, h5, h6, h7, h8, h9, h10, h11⟩ := h
  exact ⟨fun a a1 a2 a3 a4 => (zw_u_off _ _ _ (by omega)).trans (h1 a a1 a2 a3 a4), fun y hy => (zE_u2 _ _ (by omega)).trans (h2 y hy), fun i hi => by rw [zE_u2 _ _ (by omega), zq_add_o _ _ (by omega)]; exact h3 i hi, by rw [zE_u2 _ _ (by omega), zq_add_o _ _ (by omega)]; exact h4, by rw [zE_u2 _ _ (by omega), zq_add_o _ _ (by omega)]; exact h5, by rw [zE_u1, zq_add_s, h6], (zE_u2 _ _ (by omega)).trans h7, by rw [zE_u2 _ _ (by omega), zq_add_o _ _ (by omega)]; exact h8, (zE_u2 _ _ (by omega)).trans h9, fun i hi => by rw [zE_u2 _ _ (by omega), zq_add_o _ _ (by omega)]; exact h10 i hi, fun i hi => (zE_u2 _ _ (by omega)).trans (h11 i hi)⟩
theorem zq_LM.fw {I0 I : zI} {n : Nat} {tr s : Nat → Int32} {st gv : Int32} (h : zq_LM I0 I n tr s st gv) (v : Int32) : zq_LM I0 (zw_u I 148 58 (I 148 58 + v)) n tr (zq_add s 7 v) st gv := by
  obtain ⟨h1, h2, h3, h4, h5, h6, h7, h8, h9, h10, h11⟩ := h
  exact ⟨fun a a1 a2 a3 a4 => (zw_u_off _ _ _ (by omega)).trans (h1 a a1 a2 a3 a4), fun y hy => (zE_u2 _ _ (by omega)).trans (h2 y hy), fun i hi => by rw [zE_u2 _ _ (by omega), zq_add_o _ _ (by omega)]; exact h3 i hi, by rw [zE_u2 _ _ (by omega), zq_add_o _ _ (by omega)]; exact h4, by rw [zE_u2 _ _ (by omega), zq_add_o _ _ (by omega)]; exact h5, by rw [zE_u2 _ _ (by omega), zq_add_o _ _ (by omega)]; exact h6, (zE_u2 _ _ (by omega)).trans h7, by rw [zE_u1, zq_add_s, h8], (zE_u2 _ _ (by omega)).trans h9, fun i hi => by rw [zE_u2 _ _ (by omega), zq_add_o _ _ (by omega)]; exact h10 i hi, fun i hi => (zE_u2 _ _ (by omega)).trans (h11 i hi)⟩
theorem zq_LM.sst {I0 I : zI} {n : Nat} {tr s : Nat → Int32} {st gv : Int32} (h : zq_LM I0 I n tr s st gv) (v : Int32) : zq_LM I0 (zw_u I 148 57 (I 148 57 + v)) n tr s (st + v) gv := by
  obtain ⟨h1, h2, h3, h4, h5, h6, h7, h8, h9, h10, h11⟩ := h
  exact ⟨fun a a1 a2 a3 a4 => (zw_u_off _ _ _ (by omega)).trans (h1 a a1 a2 a3 a4), fun y hy => (zE_u2 _ _ (by omega)).trans (h2 y hy), fun i hi => (zE_u2 _ _ (by omega)).trans (h3 i hi), (zE_u2 _ _ (by omega)).trans h4, (zE_u2 _ _ (by omega)).trans h5, (zE_u2 _ _ (by omega)).trans h6, by rw [zE_u1, h7], (zE_u2 _ _ (by omega)).trans h8, (zE_u2 _ _ (by omega)).trans h9, fun i hi => (zE_u2 _ _ (by omega)).trans (h10 i hi), fun i hi => (zE_u2 _ _ (by omega)).trans (h11 i hi)⟩
theorem zq_LM.sgv {I0 I : zI} {n : Nat} {tr s : Nat → Int32} {st gv : Int32} (h : zq_LM I0 I n tr s st gv) (v : Int32) : zq_LM I0 (zw_u I 148 59 (I 148 59 + v)) n tr s st (gv + v) := by
  obtain ⟨h1, h2, h3, h4, h5, h6, h7, h8, h9, h10, h11⟩ := h
  exact ⟨fun a a1 a2 a3 a4 => (zw_u_off _ _ _ (by omega)).trans (h1 a a1 a2 a3 a4), fun y hy => (zE_u2 _ _ (by omega)).trans (h2 y hy), fun i hi => (zE_u2 _ _ (by omega)).trans (h3 i hi), (zE_u2 _ _ (by omega)).trans h4, (zE_u2 _ _ (by omega)).trans h5, (zE_u2 _ _ (by omega)).trans h6, (zE_u2 _ _ (by omega)).trans h7, (zE_u2 _ _ (by omega)).trans h8, by rw [zE_u1, h9], fun i hi => (zE_u2 _ _ (by omega)).trans (h10 i hi), fun i hi => (zE_u2 _ _ (by omega)).trans (h11 i hi)⟩
theorem zq_LM.tr {I0 I : zI} {n : Nat} {tr s : Nat → Int32} {st gv : Int32} (h : zq_LM I0 I n tr s st gv) (v : Int32) : zq_LM I0 (zw_u I 186 n v) (n + 1) (zq_up tr n v) s st gv := by
  obtain ⟨h1, h2, h3, h4, h5, h6, h7, h8, h9, h10, h11⟩ := h
  exact ⟨fun a a1 a2 a3 a4 => (zw_u_off _ _ _ (by omega)).trans (h1 a a1 a2 a3 a4), fun y hy => (zE_u2 _ _ (by omega)).trans (h2 y hy), fun i hi => (zE_u2 _ _ (by omega)).trans (h3 i hi), (zE_u2 _ _ (by omega)).trans h4, (zE_u2 _ _ (by omega)).trans h5, (zE_u2 _ _ (by omega)).trans h6, (zE_u2 _ _ (by omega)).trans h7, (zE_u2 _ _ (by omega)).trans h8, (zE_u2 _ _ (by omega)).trans h9, fun i hi => (zE_u2 _ _ (by omega)).trans (h10 i hi), fun i hi => by
    by_cases c : i = n
    · subst c; rw [zE_u1]; exact (if_pos rfl).symm
    · rw [zE_u2 _ _ (by omega)]; exact (h11 i (by omega)).trans (if_neg c).symm⟩
theorem zq_goesOutM {sw : Bool} {I0 I : zI} {n : Nat} {tr s : Nat → Int32} {st gv : Int32} (x w : Nat) (hx : x < 12) (hw : w < 4) (h : zq_LM I0 I n tr s st gv) (th : Int32) : ∃ I2, f_X11_goesOut 148 (nI w) (nI x) th I (zE_R sw) = some I2 ∧ zq_LM I0 I2 n tr (zq_go s w x th) st gv := by
  unfold f_X11_goesOut
  simp only [zE_gM, zE_rM sw, zE_sM, zw_g_t, zw_let_e, zE_in (k := w) (n := 4) hw (by decide), zE_in (k := x) (n := 12) hx (by decide), zE_cl (k := w) (by omega), zE_cl (k := x) (by omega)]
  have q1 := h.out w hw th
  unfold zq_go
  by_cases c : w = 0
  · rw [if_pos c, if_neg (by rw [c]; decide)]
    exact ⟨_, rfl, q1.up x hx th⟩
  · rw [if_neg c, if_pos (nI_ne0 (by omega) (by omega))]
    exact ⟨_, rfl, q1⟩
theorem zq_u1 : ∀ w, w < 4 → f_X11_stepX (nI w) = some (zq_dx w) ∧ f_X11_stepY (nI w) = some (zq_dy w) := by decide +kernel
theorem zq_u2 : ∀ c, c < 7 → ∀ w, w < 4 → f_X11_hasSide (nI c) (nI w) = some (if zq_sd c w = true then 1 else 0) := by decide +kernel
theorem zq_u3 : ∀ w, w < 4 → nI w + 2 - (nI w + 2) / 4 * 4 = nI (zq_opp w) := by decide +kernel
theorem zq_u4 : ∀ c, c < 7 → f_X11_upDown (nI c) = some (nI (zq_ud c)) ∧ f_X11_across (nI c) = some (nI (zq_ac c)) := by decide +kernel
theorem zq_u5 : ∀ w, w < 4 → ((¬ nI w - nI w / 2 * 2 = 0) ↔ ¬ w % 2 = 0) := by decide +kernel
theorem zq_DM_tr {I I2 : zI} {k : Nat} {d : zq_D} (h : zq_DM I k d) (h1 : I2 164 = I 164) (h2 : I2 165 = I 165) (h3 : I2 166 = I 166) : zq_DM I2 k d := by
  unfold zq_DM
  rw [h1, h2, h3]
  exact h
theorem zq_n4 (a b : Nat) : 4 * nI a + nI b = nI (4 * a + b) := by
  rw [show (4 : Int32) = nI 4 from rfl, pk_mul, nI_add]
theorem zq_afterM {sw : Bool} {I0 I : zI} {k q c : Nat} {d : zq_D} {fl l : Int32} {n m : Nat} {tr s : Nat → Int32} {st gv : Int32} (hk : k < 20) (hq : q < 8) (hc : c < 4) (ok : zq_ok d) (dm : zq_DM I0 k d) (hfl : I0 159 (4 * q + c) = fl) (x y w : Nat) (hx : x < d.w) (hy : y < d.t) (hw : w < 4) (h : zq_LM I0 I n tr s st gv) : ∃ I2, j_X11_follows_175_19 148 (nI k) (nI q) (nI c) (nI x) (nI y) (nI w) l (nI m) I (zE_R sw) = some (.inl (nI (zq_s2 d fl x y w l s).1, nI (zq_s2 d fl x y w l s).2.1, nI (zq_s2 d fl x y w l s).2.2.1, (zq_s2 d fl x y w l s).2.2.2.1, nI m, I2)) ∧ zq_LM I0 I2 n tr (zq_s2 d fl x y w l s).2.2.2.2 st gv := by
  have w2 := ok.w2
  have t2 := ok.t2
  have dm2 : zq_DM I k d := zq_DM_tr dm (h.1 164 (by decide) (by decide) (by decide) (by decide)) (h.1 165 (by decide) (by decide) (by decide) (by decide)) (h.1 166 (by decide) (by decide) (by decide) (by decide))
  have e159 : I 159 (4 * q + c) = fl := by rw [h.1 159 (by decide) (by decide) (by decide) (by decide)]; exact hfl
  have a6 := zq_at_6 ok (nI x + zq_dx w) (nI y + zq_dy w)
  unfold j_X11_follows_175_19
  simp only [zE_gM, zE_rM sw, zE_sM, zw_g_t, zw_let_e, zq_u1 w hw, Option.bind_some, zq_cM hk ok dm2, zq_u3 w hw, zq_u2 _ (show zq_at d (nI x + zq_dx w) (nI y + zq_dy w) < 7 by omega) _ (zq_t5 w hw).1, zq_n4, zE_in (k := 4 * q + c) (n := 32) (by omega) (by decide), zE_cl (k := 4 * q + c) (by omega), e159]
  unfold zq_s2
  by_cases hs : zq_sd (zq_at d (nI x + zq_dx w) (nI y + zq_dy w)) (zq_opp w) = true
  · rw [if_pos hs, if_neg zE_10, if_pos hs]
    have hne : zq_at d (nI x + zq_dx w) (nI y + zq_dy w) ≠ 0 := by
      intro q
      rw [q, zq_sd0] at hs
      cases hs
    obtain ⟨a, b, ha, hb, e1, e2⟩ := zq_at_ne ok hne
    rw [e1, e2, zE_cl (by omega), zE_cl (by omega)]
    exact ⟨I, rfl, h⟩
  · rw [if_neg hs, if_pos rfl, if_neg hs]
    obtain ⟨I2, f1, f2⟩ := zq_goesOutM (sw := sw) x w (by omega) hw h (l * fl / 1000)
    rw [f1]
    exact ⟨I2, rfl, f2⟩
theorem zq_stepM {sw : Bool} {I0 I : zI} {k q c : Nat} {d : zq_D} {fl sl ea : Int32} {st gv : Int32} (hk : k < 20) (hq : q < 8) (hc : c < 4) (ok : zq_ok d) (dm : zq_DM I0 k d) (hfl : I0 159 (4 * q + c) = fl) (hsl : I0 160 (4 * q + c) = sl) (hea : I0 161 q = ea) (p : zq_P) (hp : zq_in d p) (hn : p.2.2.2.2.1 < 300) (hl : 0 < p.2.2.2.1) (h : zq_LM I0 I p.2.2.2.2.1 p.2.2.2.2.2.1 p.2.2.2.2.2.2 st gv) : ∃ I2, s_X11_follows_19 148 (nI k) (nI q) (nI c) (zE_R sw) (nI p.1, nI p.2.1, nI p.2.2.1, p.2.2.2.1, nI p.2.2.2.2.1, I) = some (.inl (nI (zq_step d fl sl ea p).1, nI (zq_step d fl sl ea p).2.1, nI (zq_step d fl sl ea p).2.2.1, (zq_step d fl sl ea p).2.2.2.1, nI (p.2.2.2.2.1 + 1), I2)) ∧ zq_LM I0 I2 (p.2.2.2.2.1 + 1) (zq_step d fl sl ea p).2.2.2.2.2.1 (zq_step d fl sl ea p).2.2.2.2.2.2 st gv := by
  obtain ⟨x, y, w, l, n, tr, s⟩ := p
  obtain ⟨hx, hy, hw, hsd⟩ := hp
  dsimp only at hx hy hw hsd hn h hl
  have w2 := ok.w2
  have t2 := ok.t2
  have c6 := ok.c6 x y
  have hi := zq_s1_in (l := l) (sl := sl) (ea := ea) (s := s) ok hw hsd
  have dm2 : zq_DM I k d := zq_DM_tr dm (h.1 164 (by decide) (by decide) (by decide) (by decide)) (h.1 165 (by decide) (by decide) (by decide) (by decide)) (h.1 166 (by decide) (by decide) (by decide) (by decide))
  have q1 := h.tr (nI (12 * y + x))
  have e161 : zw_u I 186 n (nI (12 * y + x)) 161 q = ea := by rw [q1.1 161 (by decide) (by decide) (by decide) (by decide)]; exact hea
  have hl2 : ¬ l ≤ 0 := fun q => by
    have a1 := Int32.le_iff_toInt_le.mp q
    have a2 := Int32.lt_iff_toInt_lt.mp hl
    omega
  unfold s_X11_follows_19
  simp only [zE_gM, zE_rM sw, zE_sM, zw_g_t, zw_let_e, if_neg hl2, if_neg (show ¬ (300 : Int32) ≤ nI n from nI_ge (a := n) (b := 300) hn (by decide)), zq_cM hk ok dm2, zq_at_in hx hy w2 t2, Option.bind_some, zE_in (k := n) (n := 300) hn (by decide), zE_cl (k := n) (by omega), zq_n12, nI_1, zE_in (k := q) (n := 8) hq (by decide), zE_cl (k := q) (by omega), e161]
  unfold zq_step j_X11_follows_111_19 j_X11_follows_173_19
  dsimp only
  by_cases h6 : d.c x y = 6
  · rw [if_neg (fun q => q (by rw [h6]; rfl)), if_pos (by rw [h6]; decide)]
    have q2 := (q1.ea (l * ea / 1000)).fw 1
    have es : zq_s1 (d.c x y) w x l sl ea s = (w, l - l * ea / 1000, zq_add (zq_add s 5 (l * ea / 1000)) 7 1) := by unfold zq_s1; rw [if_pos h6]
    rw [es]
    exact zq_afterM hk hq hc ok dm hfl x y w hx hy hw q2
  · rw [if_pos (show ¬ nI (d.c x y) = 6 from fun q => h6 ((nI_eq (by omega) (by decide)).mp (show nI (d.c x y) = nI 6 from q)))]
    by_cases h5 : d.c x y < 5
    · rw [if_neg (show ¬ (5 : Int32) ≤ nI (d.c x y) from nI_ge (a := d.c x y) (b := 5) h5 (by decide))]
      have e160 : zw_u I 186 n (nI (12 * y + x)) 160 (4 * q + c) = sl := by rw [q1.1 160 (by decide) (by decide) (by decide) (by decide)]; exact hsl
      obtain ⟨I2, r1, r2⟩ := zq_goesOutM (sw := sw) x w (by omega) hw q1 (l * sl / 1000)
      have es : zq_s1 (d.c x y) w x l sl ea s = (zq_turn (d.c x y) w, l - l * sl / 1000, zq_go s w x (l * sl / 1000)) := by unfold zq_s1; rw [if_neg h6, if_pos h5]
      simp only [zE_gM, zE_rM sw, zE_sM, zw_g_t, zw_let_e, zq_n4, zE_in (k := 4 * q + c) (n := 32) (by omega) (by decide), zE_cl (k := 4 * q + c) (by omega), e160, r1, Option.bind_some, zq_u4 _ (show d.c x y < 7 by omega)]
      rw [es]
      have ha := zq_afterM (sw := sw) (l := l - l * sl / 1000) (m := n + 1) hk hq hc ok dm hfl x y (zq_turn (d.c x y) w) hx hy (zq_t6 (d.c x y) (by omega) w hw).1 r2
      by_cases hw2 : w % 2 = 0
      · rw [if_neg (fun q => (zq_u5 w hw).mp q hw2)]
        have et : zq_turn (d.c x y) w = zq_ac (d.c x y) := if_pos hw2
        rw [et] at ha ⊢
        exact ha
      · rw [if_pos ((zq_u5 w hw).mpr hw2)]
        have et : zq_turn (d.c x y) w = zq_ud (d.c x y) := if_neg hw2
        rw [et] at ha ⊢
        exact ha
    · rw [if_pos (show (5 : Int32) ≤ nI (d.c x y) from nI_le (a := 5) (b := d.c x y) (by omega) (by omega))]
      have es : zq_s1 (d.c x y) w x l sl ea s = (w, l, s) := by unfold zq_s1; rw [if_neg h6, if_neg h5]
      rw [es]
      exact zq_afterM hk hq hc ok dm hfl x y w hx hy hw q1
theorem zq_followsM {sw : Bool} {I0 I : zI} {k q c : Nat} {d : zq_D} {fl sl ea : Int32} {st gv : Int32} {n0 : Nat} {tr0 : Nat → Int32} (hk : k < 20) (hq : q < 8) (hc : c < 4) (ok : zq_ok d) (dm : zq_DM I0 k d) (hfl : I0 159 (4 * q + c) = fl) (hsl : I0 160 (4 * q + c) = sl) (hea : I0 161 q = ea) (x y w : Nat) (l : Int32) (tr s : Nat → Int32) (hp : zq_in d (x, y, w, l, 0, tr, s)) (h : zq_LM I0 I n0 tr0 s st gv) (p : zq_P) (he : p = zq_run d fl sl ea 300 (x, y, w, l, 0, tr, s)) : ∃ I2, f_X11_follows 148 (nI k) (nI q) (nI c) (nI x) (nI y) (nI w) l I (zE_R sw) = some I2 ∧ zq_LM I0 I2 p.2.2.2.2.1 p.2.2.2.2.2.1 (zq_add p.2.2.2.2.2.2 6 p.2.2.2.1) (st + nI p.2.2.2.2.1) gv := by
  have h0 : zq_LM I0 I 0 tr s st gv := ⟨h.1, h.2.1, h.2.2.1, h.2.2.2.1, h.2.2.2.2.1, h.2.2.2.2.2.1, h.2.2.2.2.2.2.1, h.2.2.2.2.2.2.2.1, h.2.2.2.2.2.2.2.2.1, h.2.2.2.2.2.2.2.2.2.1, fun j hj => by omega⟩
  have key : ∃ r : Int32 × Int32 × zI, zw_it (s_X11_follows_19 148 (nI k) (nI q) (nI c) (zE_R sw)) 1000000 (nI x, nI y, nI w, l, 0, I) = some r ∧ (r.1 = p.2.2.2.1 ∧ r.2.1 = nI p.2.2.2.2.1 ∧ zq_LM I0 r.2.2 p.2.2.2.2.1 p.2.2.2.2.2.1 p.2.2.2.2.2.2 st gv) := by
    refine zE_loop (fun m z => ∃ t : zq_P, z.1 = nI t.1 ∧ z.2.1 = nI t.2.1 ∧ z.2.2.1 = nI t.2.2.1 ∧ z.2.2.2.1 = t.2.2.2.1 ∧ z.2.2.2.2.1 = nI t.2.2.2.2.1 ∧ t.2.2.2.2.1 + m = 300 ∧ zq_in d t ∧ zq_LM I0 z.2.2.2.2.2 t.2.2.2.2.1 t.2.2.2.2.2.1 t.2.2.2.2.2.2 st gv ∧ zq_run d fl sl ea m t = p) _ ?_ 1000000 300 _ (by decide) ⟨(x, y, w, l, 0, tr, s), rfl, rfl, rfl, rfl, rfl, rfl, hp, h0, he.symm⟩
    rintro m ⟨zx, zy, zw, zl, zn, K⟩ ⟨t, e1, e2, e3, e4, e5, e6, hin, hl, hr⟩
    dsimp only at e1 e2 e3 e4 e5 hl
    subst e1 e2 e3 e4 e5
    by_cases hl0 : 0 < t.2.2.2.1
    · cases m with
      | zero =>
        refine Or.inr ⟨(t.2.2.2.1, nI t.2.2.2.2.1, K), ?_, ?_⟩
        · unfold s_X11_follows_19
          dsimp only
          rw [if_neg (fun q : t.2.2.2.1 ≤ 0 => absurd (Int32.le_iff_toInt_le.mp q) (by have := Int32.lt_iff_toInt_lt.mp hl0; omega)), if_pos (show (300 : Int32) ≤ nI t.2.2.2.2.1 from nI_le (a := 300) (b := t.2.2.2.2.1) (by omega) (by omega))]
        · have : t = p := hr
          rw [← this]
          exact ⟨rfl, rfl, hl⟩
      | succ m =>
        obtain ⟨I2, f1, f2⟩ := zq_stepM (sw := sw) hk hq hc ok dm hfl hsl hea t hin (by omega) hl0 hl
        refine Or.inl ⟨_, m, f1, by omega, zq_step d fl sl ea t, rfl, rfl, rfl, rfl, rfl, ?_, zq_step_in ok hin, f2, ?_⟩
        · show t.2.2.2.2.1 + 1 + m = 300
          omega
        · rw [← hr]
          show _ = if 0 < t.2.2.2.1 then _ else _
          rw [if_pos hl0]
    · refine Or.inr ⟨(t.2.2.2.1, nI t.2.2.2.2.1, K), ?_, ?_⟩
      · unfold s_X11_follows_19
        dsimp only
        rw [if_pos (by rw [Int32.le_iff_toInt_le]; rw [Int32.lt_iff_toInt_lt] at hl0; omega)]
      · have : t = p := by
          rw [← hr]
          cases m with
          | zero => rfl
          | succ m =>
            show t = if 0 < t.2.2.2.1 then _ else t
            rw [if_neg hl0]
        rw [← this]
        exact ⟨rfl, rfl, hl⟩
  obtain ⟨⟨r1, r2, r3⟩, f1, f2, f3, f4⟩ := key
  dsimp only at f2 f3 f4
  subst f2 f3
  unfold f_X11_follows j_X11_follows_274
  rw [f1]
  simp only [Option.bind_some, zE_gM, zw_g_t, zw_let_e]
  exact ⟨_, rfl, (f4.re _).sst _⟩
theorem zq_pos1 {d : zq_D} (ok : zq_ok d) (lamp i k : Nat) (hlamp : lamp = 0 ∨ lamp = 1 ∨ lamp = 3) (hi : i < if lamp = 0 then d.w else d.t) (hk : k < if lamp = 0 then d.t else d.w) : ∃ a b, a < d.w ∧ b < d.t ∧ zq_px d lamp i k = nI a ∧ zq_py lamp i k = nI b := by
  have w2 := ok.w2
  have t2 := ok.t2
  rcases hlamp with rfl | rfl | rfl
  · exact ⟨i, k, hi, hk, rfl, rfl⟩
  · refine ⟨d.w - 1 - k, i, ?_, hi, ?_, rfl⟩
    · have hk2 : k < d.w := hk
      omega
    · have hk2 : k < d.w := hk
      show nI d.w - 1 - nI k = _
      rw [show (1 : Int32) = nI 1 from rfl, pk_sub (by omega), pk_sub (by omega)]
  · exact ⟨k, i, hk, hi, rfl, rfl⟩
theorem zq_pos2 {d : zq_D} (ok : zq_ok d) (lamp i k : Nat) (hlamp : lamp = 0 ∨ lamp = 1 ∨ lamp = 3) (hk : (if lamp = 0 then d.t else d.w) ≤ k) (hk2 : k ≤ 12) : zq_la d lamp i k = 0 := by
  have w2 := ok.w2
  have t2 := ok.t2
  unfold zq_la
  rcases hlamp with rfl | rfl | rfl
  · exact zq_at_yh (nI_le (show d.t ≤ k from hk) (by omega)) t2
  · have hk3 : d.w ≤ k := hk
    refine zq_at_x0 ?_
    show nI d.w - 1 - nI k < 0
    have w1 := ok.w1
    rw [show (1 : Int32) = nI 1 from rfl, pk_sub w1]
    exact pk_sneg (by omega) (by omega)
  · exact zq_at_xh (nI_le (show d.w ≤ k from hk) (by omega)) w2
theorem zq_lampLoopM {sw : Bool} {I : zI} {k : Nat} {d : zq_D} {v2 v3 v4 v6 : Int32} (hk : k < 20) (ok : zq_ok d) (dm : zq_DM I k d) (lamp i : Nat) (hlamp : lamp = 0 ∨ lamp = 1 ∨ lamp = 3) (hi : i < if lamp = 0 then d.w else d.t) : ∃ r : Int32 × Int32, zw_it (s_X11_lamp_76 148 (nI k) v2 v3 v4 v6 (nI (zq_opp lamp)) I (zE_R sw)) 1000000 (zq_px d lamp i 0, zq_py lamp i 0) = some r ∧ (zq_at d r.1 r.2 = zq_la d lamp i (zq_ent d lamp i) ∧ (zq_at d r.1 r.2 ≠ 0 → r = (zq_px d lamp i (zq_ent d lamp i), zq_py lamp i (zq_ent d lamp i)))) := by
  have w2 := ok.w2
  have t2 := ok.t2
  have h4 : zq_opp lamp < 4 := Nat.mod_lt _ (by decide)
  have hf := zq_fst_p (zq_la d lamp i) 12 0
  have hN : (if lamp = 0 then d.t else d.w) ≤ 12 := by split <;> omega
  refine zE_for (fun j z => z = (zq_px d lamp i j, zq_py lamp i j) ∧ j ≤ zq_fst (zq_la d lamp i) 12 0) _ (if lamp = 0 then d.t else d.w) ?_ ?_ 0 _ (Nat.zero_le _) (by omega) ⟨rfl, Nat.zero_le _⟩
  · rintro j z hj ⟨rfl, hj2⟩
    obtain ⟨a, b, ha, hb, e1, e2⟩ := zq_pos1 ok lamp i j hlamp hi hj
    have a6 := ok.c6 a b
    have hla : zq_la d lamp i j = d.c a b := by unfold zq_la; rw [e1, e2, zq_at_in ha hb w2 t2]
    unfold s_X11_lamp_76
    simp only [zE_gM, zE_rM sw, zE_sM, zw_g_t, zw_let_e, zE_in (k := k) (n := 20) hk (by decide), zE_cl (k := k) (by omega), dm.w, dm.t, e1, e2, if_neg (nI_pos (n := a) (by omega)), if_neg (nI_ge ha (by omega)), if_neg (nI_ge hb (by omega)), zq_cM hk ok dm, zq_at_in ha hb w2 t2, Option.bind_some, zq_u1 _ h4]
    by_cases hc : d.c a b = 0
    · rw [if_neg (fun q => q (by rw [hc]; rfl))]
      refine Or.inl ⟨_, rfl, ?_, ?_⟩
      · rw [(zq_px1 d lamp i j hlamp).1, (zq_px1 d lamp i j hlamp).2, e1, e2]
      · by_cases q : j = zq_fst (zq_la d lamp i) 12 0
        · exact absurd (hla.trans hc) (by
            have := hf.2.2.2 (by omega)
            rw [← q] at this
            exact this)
        · omega
    · rw [if_pos (nI_ne0 (n := d.c a b) (by omega) (by omega))]
      have hr : j = zq_fst (zq_la d lamp i) 12 0 := by
        by_cases q : j < zq_fst (zq_la d lamp i) 12 0
        · exact absurd (hla.symm.trans (hf.2.2.1 j (Nat.zero_le _) q)) hc
        · omega
      have he : zq_ent d lamp i = j := by unfold zq_ent; omega
      refine Or.inr ⟨_, rfl, ?_, fun _ => ?_⟩
      · rw [he, hla, zq_at_in ha hb w2 t2]
      · rw [he, e1, e2]
  · rintro z ⟨rfl, hj2⟩
    have hz : zq_la d lamp i (if lamp = 0 then d.t else d.w) = 0 := zq_pos2 ok lamp i _ hlamp (Nat.le_refl _) hN
    have hr : zq_fst (zq_la d lamp i) 12 0 = 12 := by
      by_cases q : zq_fst (zq_la d lamp i) 12 0 < 12
      · exact absurd (zq_pos2 ok lamp i _ hlamp hj2 (by omega)) (hf.2.2.2 (by omega))
      · omega
    have he : zq_la d lamp i (zq_ent d lamp i) = 0 := hf.2.2.1 _ (Nat.zero_le _) (by unfold zq_ent; omega)
    refine ⟨(zq_px d lamp i (if lamp = 0 then d.t else d.w), zq_py lamp i (if lamp = 0 then d.t else d.w)), ?_, ?_, fun q => absurd hz q⟩
    · unfold s_X11_lamp_76
      simp only [zE_gM, zE_rM sw, zE_sM, zw_g_t, zE_in (k := k) (n := 20) hk (by decide), zE_cl (k := k) (by omega), dm.w, dm.t]
      rcases hlamp with rfl | rfl | rfl
      · have hi2 : i < d.w := hi
        show (if nI i < 0 then _ else if nI d.w ≤ nI i then _ else if nI d.t ≤ nI d.t then _ else _) = _
        rw [if_neg (nI_pos (n := i) (by omega)), if_neg (nI_ge hi2 (by omega)), if_pos (nI_le (Nat.le_refl _) (by omega))]
      · have w1 := ok.w1
        have e : zq_px d 1 i d.w < 0 := by
          show nI d.w - 1 - nI d.w < 0
          rw [show (1 : Int32) = nI 1 from rfl, pk_sub w1]
          exact pk_sneg (by omega) (by omega)
        rw [if_pos (show zq_px d 1 i (if 1 = 0 then d.t else d.w) < 0 from e)]
      · show (if nI d.w < 0 then _ else if nI d.w ≤ nI d.w then _ else _) = _
        rw [if_neg (nI_pos (n := d.w) (by omega)), if_pos (nI_le (Nat.le_refl _) (by omega))]
    · rw [he]; exact hz
theorem zq_lampM {sw : Bool} {I0 I : zI} {k q c : Nat} {d : zq_D} {fl sl ea : Int32} {st gv : Int32} {n : Nat} {tr s : Nat → Int32} (hk : k < 20) (hq : q < 8) (hc : c < 4) (ok : zq_ok d) (dm : zq_DM I0 k d) (hfl : I0 159 (4 * q + c) = fl) (hsl : I0 160 (4 * q + c) = sl) (hea : I0 161 q = ea) (lamp i : Nat) (hlamp : lamp = 0 ∨ lamp = 1 ∨ lamp = 3) (hi : i < if lamp = 0 then d.w else d.t) (l : Int32) (h : zq_LM I0 I n tr s st gv) : ∃ I2, f_X11_lamp 148 (nI k) (nI q) (nI c) (nI lamp) (nI i) l I (zE_R sw) = some I2 ∧ zq_LM I0 I2 (zq_lamp d fl sl ea lamp i l tr s).1 (zq_lamp d fl sl ea lamp i l tr s).2.1 (zq_lamp d fl sl ea lamp i l tr s).2.2 (st + nI (zq_lamp d fl sl ea lamp i l tr s).1) (gv + l) := by
  have w2 := ok.w2
  have t2 := ok.t2
  have h4 : zq_opp lamp < 4 := Nat.mod_lt _ (by decide)
  have e4 : zq_opp (zq_opp lamp) = lamp := (zq_t5 lamp (by omega)).2
  have m0 := h.sgv l
  have dm2 : zq_DM (zw_u I 148 59 (I 148 59 + l)) k d := zq_DM_tr dm (m0.1 164 (by decide) (by decide) (by decide) (by decide)) (m0.1 165 (by decide) (by decide) (by decide) (by decide)) (m0.1 166 (by decide) (by decide) (by decide) (by decide))
  have e159 : zw_u I 148 59 (I 148 59 + l) 159 (4 * q + c) = fl := by rw [m0.1 159 (by decide) (by decide) (by decide) (by decide)]; exact hfl
  have key : ∃ I2, j_X11_lamp_74 148 (nI k) (nI q) (nI c) (nI lamp) l (nI (zq_opp lamp)) (zq_px d lamp i 0) (zq_py lamp i 0) (zw_u I 148 59 (I 148 59 + l)) (zE_R sw) = some I2 ∧ zq_LM I0 I2 (zq_lamp d fl sl ea lamp i l tr s).1 (zq_lamp d fl sl ea lamp i l tr s).2.1 (zq_lamp d fl sl ea lamp i l tr s).2.2 (st + nI (zq_lamp d fl sl ea lamp i l tr s).1) (gv + l) := by
    obtain ⟨r, f1, f2, f3⟩ := zq_lampLoopM (sw := sw) (v2 := nI q) (v3 := nI c) (v4 := nI lamp) (v6 := l) hk ok dm2 lamp i hlamp hi
    have a6 := zq_at_6 ok r.1 r.2
    unfold j_X11_lamp_74 j_X11_lamp_138 j_X11_lamp_164
    rw [f1]
    simp only [Option.bind_some, zE_gM, zE_rM sw, zE_sM, zw_g_t, zw_let_e, zq_cM hk ok dm2, zq_n4, zE_in (k := 4 * q + c) (n := 32) (by omega) (by decide), zE_cl (k := 4 * q + c) (by omega), e159, zq_u2 _ (show zq_at d r.1 r.2 < 7 by omega) lamp (by omega)]
    by_cases hs : zq_sd (zq_la d lamp i (zq_ent d lamp i)) lamp = true
    · have hs2 := hs
      rw [← f2] at hs2
      have hne : zq_at d r.1 r.2 ≠ 0 := by
        intro q
        rw [q, zq_sd0] at hs2
        cases hs2
      obtain ⟨a, b, ha, hb, e1, e2⟩ := zq_at_ne ok hne
      have er := f3 hne
      have ea1 : zq_px d lamp i (zq_ent d lamp i) = nI a := by rw [← e1, er]
      have eb1 : zq_py lamp i (zq_ent d lamp i) = nI b := by rw [← e2, er]
      rw [if_neg (nI_ne0 (n := zq_at d r.1 r.2) (Nat.pos_of_ne_zero hne) (by omega)), if_pos hs2, if_pos zE_10, e1, e2]
      have hla : zq_la d lamp i (zq_ent d lamp i) = d.c a b := by rw [← f2, e1, e2, zq_at_in ha hb w2 t2]
      obtain ⟨I2, r1, r2⟩ := zq_followsM (sw := sw) hk hq hc ok dm hfl hsl hea a b (zq_opp lamp) (l * fl / 1000) tr (zq_add s 4 (l - l * fl / 1000)) ⟨ha, hb, h4, by show zq_sd (d.c a b) (zq_opp (zq_opp lamp)) = true; rw [e4, ← hla]; exact hs⟩ (m0.gl (l - l * fl / 1000)) _ rfl
      have es : zq_lamp d fl sl ea lamp i l tr s = ((zq_run d fl sl ea 300 (a, b, zq_opp lamp, l * fl / 1000, 0, tr, zq_add s 4 (l - l * fl / 1000))).2.2.2.2.1, (zq_run d fl sl ea 300 (a, b, zq_opp lamp, l * fl / 1000, 0, tr, zq_add s 4 (l - l * fl / 1000))).2.2.2.2.2.1, zq_add (zq_run d fl sl ea 300 (a, b, zq_opp lamp, l * fl / 1000, 0, tr, zq_add s 4 (l - l * fl / 1000))).2.2.2.2.2.2 6 (zq_run d fl sl ea 300 (a, b, zq_opp lamp, l * fl / 1000, 0, tr, zq_add s 4 (l - l * fl / 1000))).2.2.2.1) := by
        unfold zq_lamp
        rw [if_pos hs, ea1, eb1, zE_cl (by omega), zE_cl (by omega)]
      rw [es, r1, Option.bind_some]
      exact ⟨I2, rfl, r2⟩
    · have es : zq_lamp d fl sl ea lamp i l tr s = (0, tr, zq_add s 4 l) := by unfold zq_lamp; rw [if_neg hs]
      have hs2 := hs
      rw [← f2] at hs2
      rw [es]
      have m1 := m0.gl l
      have m2 : zq_LM I0 (zw_u (zw_u I 148 59 (I 148 59 + l)) 148 54 (zw_u I 148 59 (I 148 59 + l) 148 54 + l)) 0 tr (zq_add s 4 l) (st + nI 0) (gv + l) := ⟨m1.1, m1.2.1, m1.2.2.1, m1.2.2.2.1, m1.2.2.2.2.1, m1.2.2.2.2.2.1, m1.2.2.2.2.2.2.1.trans (Int32.add_zero _).symm, m1.2.2.2.2.2.2.2.1, m1.2.2.2.2.2.2.2.2.1, m1.2.2.2.2.2.2.2.2.2.1, fun j hj => by omega⟩
      by_cases hz : nI (zq_at d r.1 r.2) = 0
      · rw [if_pos hz]
        exact ⟨_, rfl, m2⟩
      · rw [if_neg hz, if_neg hs2, if_neg (fun q => q rfl)]
        exact ⟨_, rfl, m2⟩
  unfold f_X11_lamp j_X11_lamp_31 j_X11_lamp_61
  simp only [zE_gM, zE_rM sw, zE_sM, zw_g_t, zw_let_e, zE_in (k := k) (n := 20) hk (by decide), zE_cl (k := k) (by omega), dm2.w]
  rcases hlamp with rfl | rfl | rfl
  · rw [if_neg (fun q => q rfl), if_neg (fun q => q rfl), if_neg (fun q => q rfl)]
    exact key
  · rw [if_pos (by decide), if_neg (fun q => q rfl), if_pos (by decide), if_neg (fun q => q rfl), if_pos (by decide)]
    have e : zq_px d 1 i 0 = nI d.w - 1 := Int32.sub_zero _
    rw [e] at key
    exact key
  · rw [if_pos (by decide), if_pos (by decide), if_pos (by decide), if_pos (by decide), if_pos (by decide)]
    exact key
