/-! ===== light: what the class does ===== -/
def zq_add (s : Nat → Int32) (j : Nat) (v : Int32) : Nat → Int32 := fun i => if i = j then s i + v else s i
def zq_go (s : Nat → Int32) (w x : Nat) (th : Int32) : Nat → Int32 := if w = 0 then zq_add (zq_add s w th) (8 + x) th else zq_add s w th
def zq_up (f : Nat → Int32) (n : Nat) (v : Int32) : Nat → Int32 := fun i => if i = n then v else f i
theorem zq_add_o (s : Nat → Int32) {j i : Nat} (v : Int32) (h : i ≠ j) : zq_add s j v i = s i := if_neg h
theorem zq_add_s (s : Nat → Int32) (j : Nat) (v : Int32) : zq_add s j v j = s j + v := if_pos rfl
def zq_li (sw : Bool) (o : Nat) : Prop := zw_gc o 2 = true ∧ zE_R sw o 0 = o + 1 ∧ zE_R sw o 2 = o + 2 ∧ zE_R sw o 3 = o + 3 ∧ zw_gc (o + 1) 13 = true ∧ zw_gc (o + 2) 13 = true ∧ zw_gc (o + 3) 13 = true ∧ zw_SH (o + 1) = (13, 300) ∧ zw_SH (o + 2) = (13, 7) ∧ zw_SH (o + 3) = (13, 12)
theorem zq_li1 (sw : Bool) : zq_li sw 122 := by
  show zw_gc 122 2 = true ∧ zE_R sw 122 0 = 123 ∧ zE_R sw 122 2 = 124 ∧ zE_R sw 122 3 = 125 ∧ zw_gc 123 13 = true ∧ zw_gc 124 13 = true ∧ zw_gc 125 13 = true ∧ zw_SH 123 = (13, 300) ∧ zw_SH 124 = (13, 7) ∧ zw_SH 125 = (13, 12)
  simp only [zE_gC, zE_rC sw, zE_sC, and_self]
theorem zq_li2 (sw : Bool) : zq_li sw 128 := by
  show zw_gc 128 2 = true ∧ zE_R sw 128 0 = 129 ∧ zE_R sw 128 2 = 130 ∧ zE_R sw 128 3 = 131 ∧ zw_gc 129 13 = true ∧ zw_gc 130 13 = true ∧ zw_gc 131 13 = true ∧ zw_SH 129 = (13, 300) ∧ zw_SH 130 = (13, 7) ∧ zw_SH 131 = (13, 12)
  simp only [zE_gC, zE_rC sw, zE_sC, and_self]
theorem zq_li3 (sw : Bool) : zq_li sw 134 := by
  show zw_gc 134 2 = true ∧ zE_R sw 134 0 = 135 ∧ zE_R sw 134 2 = 136 ∧ zE_R sw 134 3 = 137 ∧ zw_gc 135 13 = true ∧ zw_gc 136 13 = true ∧ zw_gc 137 13 = true ∧ zw_SH 135 = (13, 300) ∧ zw_SH 136 = (13, 7) ∧ zw_SH 137 = (13, 12)
  simp only [zE_gC, zE_rC sw, zE_sC, and_self]
/-- the light o: where it stands, and what else is as in I0 -/
def zq_LC (I0 I : zI) (o : Nat) (x y w l : Int32) (n : Nat) (tr s : Nat → Int32) (fl sl ea : Int32) : Prop := (∀ a, (a < o ∨ o + 3 < a) → I a = I0 a) ∧ I o 1 = nI n ∧ (∀ j, j < n → I (o + 1) j = tr j) ∧ (∀ j, j < 7 → I (o + 2) j = s j) ∧ I o 4 = s 7 ∧ (∀ j, j < 12 → I (o + 3) j = s (8 + j)) ∧ I o 5 = fl ∧ I o 6 = sl ∧ I o 7 = ea ∧ I o 8 = x ∧ I o 9 = y ∧ I o 10 = w ∧ I o 11 = l
theorem zq_LC.sum {I0 I : zI} {o : Nat} {x y w l : Int32} {n : Nat} {tr s : Nat → Int32} {fl sl ea : Int32} (h : zq_LC I0 I o x y w l n tr s fl sl ea) (j : Nat) (hj : j < 7) (v : Int32) : zq_LC I0 (zw_u I (o + 2) j (I (o + 2) j + v)) o x y w l n tr (zq_add s j v) fl sl ea := by
  obtain ⟨h0, h1, h2, h3, h4, h5, h6, h7, h8, h9, h10, h11, h12⟩ := h
  exact ⟨fun a ha => (zw_u_off _ _ _ (by omega)).trans (h0 a ha), (zE_u2 _ _ (by omega)).trans h1, fun i hi => (zE_u2 _ _ (by omega)).trans (h2 i hi), fun i hi => by
    by_cases c : i = j
    · subst c; rw [zE_u1, zq_add_s, h3 i hi]
    · rw [zE_u2 _ _ (by omega), zq_add_o _ _ c]; exact h3 i hi, by rw [zE_u2 _ _ (by omega), zq_add_o _ _ (by omega)]; exact h4, fun i hi => by rw [zE_u2 _ _ (by omega), zq_add_o _ _ (by omega)]; exact h5 i hi, (zE_u2 _ _ (by omega)).trans h6, (zE_u2 _ _ (by omega)).trans h7, (zE_u2 _ _ (by omega)).trans h8, (zE_u2 _ _ (by omega)).trans h9, (zE_u2 _ _ (by omega)).trans h10, (zE_u2 _ _ (by omega)).trans h11, (zE_u2 _ _ (by omega)).trans h12⟩
theorem zq_LC.up {I0 I : zI} {o : Nat} {x y w l : Int32} {n : Nat} {tr s : Nat → Int32} {fl sl ea : Int32} (h : zq_LC I0 I o x y w l n tr s fl sl ea) (j : Nat) (hj : j < 12) (v : Int32) : zq_LC I0 (zw_u I (o + 3) j (I (o + 3) j + v)) o x y w l n tr (zq_add s (8 + j) v) fl sl ea := by
  obtain ⟨h0, h1, h2, h3, h4, h5, h6, h7, h8, h9, h10, h11, h12⟩ := h
  exact ⟨fun a ha => (zw_u_off _ _ _ (by omega)).trans (h0 a ha), (zE_u2 _ _ (by omega)).trans h1, fun i hi => (zE_u2 _ _ (by omega)).trans (h2 i hi), fun i hi => by rw [zE_u2 _ _ (by omega), zq_add_o _ _ (by omega)]; exact h3 i hi, by rw [zE_u2 _ _ (by omega), zq_add_o _ _ (by omega)]; exact h4, fun i hi => by
    by_cases c : i = j
    · subst c; rw [zE_u1, zq_add_s, h5 i hi]
    · rw [zE_u2 _ _ (by omega), zq_add_o _ _ (by omega)]; exact h5 i hi, (zE_u2 _ _ (by omega)).trans h6, (zE_u2 _ _ (by omega)).trans h7, (zE_u2 _ _ (by omega)).trans h8, (zE_u2 _ _ (by omega)).trans h9, (zE_u2 _ _ (by omega)).trans h10, (zE_u2 _ _ (by omega)).trans h11, (zE_u2 _ _ (by omega)).trans h12⟩
theorem zq_LC.flaw {I0 I : zI} {o : Nat} {x y w l : Int32} {n : Nat} {tr s : Nat → Int32} {fl sl ea : Int32} (h : zq_LC I0 I o x y w l n tr s fl sl ea) (v : Int32) : zq_LC I0 (zw_u I o 4 (I o 4 + v)) o x y w l n tr (zq_add s 7 v) fl sl ea := by
  obtain ⟨h0, h1, h2, h3, h4, h5, h6, h7, h8, h9, h10, h11, h12⟩ := h
  exact ⟨fun a ha => (zw_u_off _ _ _ (by omega)).trans (h0 a ha), (zE_u2 _ _ (by omega)).trans h1, fun i hi => (zE_u2 _ _ (by omega)).trans (h2 i hi), fun i hi => by rw [zE_u2 _ _ (by omega), zq_add_o _ _ (by omega)]; exact h3 i hi, by rw [zE_u1, zq_add_s, h4], fun i hi => by rw [zE_u2 _ _ (by omega), zq_add_o _ _ (by omega)]; exact h5 i hi, (zE_u2 _ _ (by omega)).trans h6, (zE_u2 _ _ (by omega)).trans h7, (zE_u2 _ _ (by omega)).trans h8, (zE_u2 _ _ (by omega)).trans h9, (zE_u2 _ _ (by omega)).trans h10, (zE_u2 _ _ (by omega)).trans h11, (zE_u2 _ _ (by omega)).trans h12⟩
theorem zq_LC.sl {I0 I : zI} {o : Nat} {x y w l : Int32} {n : Nat} {tr s : Nat → Int32} {fl sl ea : Int32} (h : zq_LC I0 I o x y w l n tr s fl sl ea) (v : Int32) : zq_LC I0 (zw_u I o 11 v) o x y w v n tr s fl sl ea := by
  obtain ⟨h0, h1, h2, h3, h4, h5, h6, h7, h8, h9, h10, h11, h12⟩ := h
  exact ⟨fun a ha => (zw_u_off _ _ _ (by omega)).trans (h0 a ha), (zE_u2 _ _ (by omega)).trans h1, fun i hi => (zE_u2 _ _ (by omega)).trans (h2 i hi), fun i hi => (zE_u2 _ _ (by omega)).trans (h3 i hi), (zE_u2 _ _ (by omega)).trans h4, fun i hi => (zE_u2 _ _ (by omega)).trans (h5 i hi), (zE_u2 _ _ (by omega)).trans h6, (zE_u2 _ _ (by omega)).trans h7, (zE_u2 _ _ (by omega)).trans h8, (zE_u2 _ _ (by omega)).trans h9, (zE_u2 _ _ (by omega)).trans h10, (zE_u2 _ _ (by omega)).trans h11, zE_u1 _ _ _ _⟩
theorem zq_LC.sw {I0 I : zI} {o : Nat} {x y w l : Int32} {n : Nat} {tr s : Nat → Int32} {fl sl ea : Int32} (h : zq_LC I0 I o x y w l n tr s fl sl ea) (v : Int32) : zq_LC I0 (zw_u I o 10 v) o x y v l n tr s fl sl ea := by
  obtain ⟨h0, h1, h2, h3, h4, h5, h6, h7, h8, h9, h10, h11, h12⟩ := h
  exact ⟨fun a ha => (zw_u_off _ _ _ (by omega)).trans (h0 a ha), (zE_u2 _ _ (by omega)).trans h1, fun i hi => (zE_u2 _ _ (by omega)).trans (h2 i hi), fun i hi => (zE_u2 _ _ (by omega)).trans (h3 i hi), (zE_u2 _ _ (by omega)).trans h4, fun i hi => (zE_u2 _ _ (by omega)).trans (h5 i hi), (zE_u2 _ _ (by omega)).trans h6, (zE_u2 _ _ (by omega)).trans h7, (zE_u2 _ _ (by omega)).trans h8, (zE_u2 _ _ (by omega)).trans h9, (zE_u2 _ _ (by omega)).trans h10, zE_u1 _ _ _ _, (zE_u2 _ _ (by omega)).trans h12⟩
theorem zq_LC.sy {I0 I : zI} {o : Nat} {x y w l : Int32} {n : Nat} {tr s : Nat → Int32} {fl sl ea : Int32} (h : zq_LC I0 I o x y w l n tr s fl sl ea) (v : Int32) : zq_LC I0 (zw_u I o 9 v) o x v w l n tr s fl sl ea := by
  obtain ⟨h0, h1, h2, h3, h4, h5, h6, h7, h8, h9, h10, h11, h12⟩ := h
  exact ⟨fun a ha => (zw_u_off _ _ _ (by omega)).trans (h0 a ha), (zE_u2 _ _ (by omega)).trans h1, fun i hi => (zE_u2 _ _ (by omega)).trans (h2 i hi), fun i hi => (zE_u2 _ _ (by omega)).trans (h3 i hi), (zE_u2 _ _ (by omega)).trans h4, fun i hi => (zE_u2 _ _ (by omega)).trans (h5 i hi), (zE_u2 _ _ (by omega)).trans h6, (zE_u2 _ _ (by omega)).trans h7, (zE_u2 _ _ (by omega)).trans h8, (zE_u2 _ _ (by omega)).trans h9, zE_u1 _ _ _ _, (zE_u2 _ _ (by omega)).trans h11, (zE_u2 _ _ (by omega)).trans h12⟩
theorem zq_LC.sx {I0 I : zI} {o : Nat} {x y w l : Int32} {n : Nat} {tr s : Nat → Int32} {fl sl ea : Int32} (h : zq_LC I0 I o x y w l n tr s fl sl ea) (v : Int32) : zq_LC I0 (zw_u I o 8 v) o v y w l n tr s fl sl ea := by
  obtain ⟨h0, h1, h2, h3, h4, h5, h6, h7, h8, h9, h10, h11, h12⟩ := h
  exact ⟨fun a ha => (zw_u_off _ _ _ (by omega)).trans (h0 a ha), (zE_u2 _ _ (by omega)).trans h1, fun i hi => (zE_u2 _ _ (by omega)).trans (h2 i hi), fun i hi => (zE_u2 _ _ (by omega)).trans (h3 i hi), (zE_u2 _ _ (by omega)).trans h4, fun i hi => (zE_u2 _ _ (by omega)).trans (h5 i hi), (zE_u2 _ _ (by omega)).trans h6, (zE_u2 _ _ (by omega)).trans h7, (zE_u2 _ _ (by omega)).trans h8, zE_u1 _ _ _ _, (zE_u2 _ _ (by omega)).trans h10, (zE_u2 _ _ (by omega)).trans h11, (zE_u2 _ _ (by omega)).trans h12⟩
theorem zq_LC.tr {I0 I : zI} {o : Nat} {x y w l : Int32} {n : Nat} {tr s : Nat → Int32} {fl sl ea : Int32} (h : zq_LC I0 I o x y w l n tr s fl sl ea) (v : Int32) : zq_LC I0 (zw_u I (o + 1) n v) o x y w l n (zq_up tr n v) s fl sl ea := by
  obtain ⟨h0, h1, h2, h3, h4, h5, h6, h7, h8, h9, h10, h11, h12⟩ := h
  exact ⟨fun a ha => (zw_u_off _ _ _ (by omega)).trans (h0 a ha), (zE_u2 _ _ (by omega)).trans h1, fun i hi => by
    rw [zE_u2 _ _ (by omega)]
    exact (h2 i hi).trans (if_neg (by omega)).symm, fun i hi => (zE_u2 _ _ (by omega)).trans (h3 i hi), (zE_u2 _ _ (by omega)).trans h4, fun i hi => (zE_u2 _ _ (by omega)).trans (h5 i hi), (zE_u2 _ _ (by omega)).trans h6, (zE_u2 _ _ (by omega)).trans h7, (zE_u2 _ _ (by omega)).trans h8, (zE_u2 _ _ (by omega)).trans h9, (zE_u2 _ _ (by omega)).trans h10, (zE_u2 _ _ (by omega)).trans h11, (zE_u2 _ _ (by omega)).trans h12⟩
theorem zq_LC.steps {I0 I : zI} {o : Nat} {x y w l : Int32} {n : Nat} {tr s : Nat → Int32} {fl sl ea : Int32} (h : zq_LC I0 I o x y w l n tr s fl sl ea) (h1 : I (o + 1) n = tr n) : zq_LC I0 (zw_u I o 1 (nI (n + 1))) o x y w l (n + 1) tr s fl sl ea := by
  obtain ⟨h0, h1b, h2, h3, h4, h5, h6, h7, h8, h9, h10, h11, h12⟩ := h
  exact ⟨fun a ha => (zw_u_off _ _ _ (by omega)).trans (h0 a ha), zE_u1 _ _ _ _, fun i hi => by
    rw [zE_u2 _ _ (by omega)]
    by_cases c : i = n
    · subst c; exact h1
    · exact h2 i (by omega), fun i hi => (zE_u2 _ _ (by omega)).trans (h3 i hi), (zE_u2 _ _ (by omega)).trans h4, fun i hi => (zE_u2 _ _ (by omega)).trans (h5 i hi), (zE_u2 _ _ (by omega)).trans h6, (zE_u2 _ _ (by omega)).trans h7, (zE_u2 _ _ (by omega)).trans h8, (zE_u2 _ _ (by omega)).trans h9, (zE_u2 _ _ (by omega)).trans h10, (zE_u2 _ _ (by omega)).trans h11, (zE_u2 _ _ (by omega)).trans h12⟩
theorem zq_LC.steps0 {I0 I : zI} {o : Nat} {x y w l : Int32} {n : Nat} {tr s : Nat → Int32} {fl sl ea : Int32} (h : zq_LC I0 I o x y w l n tr s fl sl ea) : zq_LC I0 (zw_u I o 1 0) o x y w l 0 tr s fl sl ea := by
  obtain ⟨h0, h1b, h2, h3, h4, h5, h6, h7, h8, h9, h10, h11, h12⟩ := h
  exact ⟨fun a ha => (zw_u_off _ _ _ (by omega)).trans (h0 a ha), zE_u1 _ _ _ _, fun i hi => by omega, fun i hi => (zE_u2 _ _ (by omega)).trans (h3 i hi), (zE_u2 _ _ (by omega)).trans h4, fun i hi => (zE_u2 _ _ (by omega)).trans (h5 i hi), (zE_u2 _ _ (by omega)).trans h6, (zE_u2 _ _ (by omega)).trans h7, (zE_u2 _ _ (by omega)).trans h8, (zE_u2 _ _ (by omega)).trans h9, (zE_u2 _ _ (by omega)).trans h10, (zE_u2 _ _ (by omega)).trans h11, (zE_u2 _ _ (by omega)).trans h12⟩
theorem zq_goOutC {sw : Bool} {I0 I : zI} {o : Nat} {y l : Int32} {n : Nat} {tr s : Nat → Int32} {fl sl ea : Int32} (hli : zq_li sw o) (x w : Nat) (hx : x < 12) (hw : w < 4) (h : zq_LC I0 I o (nI x) y (nI w) l n tr s fl sl ea) (sh : Int32) : ∃ I2, f_X2_goOut o sh I (zE_R sw) = some I2 ∧ zq_LC I0 I2 o (nI x) y (nI w) (l - l * sh / 1000) n tr (zq_go s w x (l * sh / 1000)) fl sl ea := by
  obtain ⟨g1, g2, g3, g4, g5, g6, g7, g8, g9, g10⟩ := hli
  have e8 := h.2.2.2.2.2.2.2.2.2.1
  have e10 := h.2.2.2.2.2.2.2.2.2.2.2.1
  have e11 := h.2.2.2.2.2.2.2.2.2.2.2.2
  have q1 := h.sum w (by omega) (l * sh / 1000)
  have q8 := q1.2.2.2.2.2.2.2.2.2.1
  have q10 := q1.2.2.2.2.2.2.2.2.2.2.2.1
  have q11 := q1.2.2.2.2.2.2.2.2.2.2.2.2
  unfold f_X2_goOut j_X2_goOut_44
  simp only [g1, g3, g4, g6, g7, g9, g10, zw_g_t, zw_let_e, e8, e10, e11, q8, q10, q11, zE_in (k := w) (n := 7) (by omega) (by decide), zE_in (k := x) (n := 12) hx (by decide), zE_cl (k := w) (by omega), zE_cl (k := x) (by omega)]
  unfold zq_go
  by_cases c : w = 0
  · rw [if_pos c, if_neg (by rw [c]; decide)]
    have q2 := q1.up x hx (l * sh / 1000)
    have r11 := q2.2.2.2.2.2.2.2.2.2.2.2.2
    rw [r11]
    exact ⟨_, rfl, q2.sl _⟩
  · rw [if_neg c, if_pos (nI_ne0 (by omega) (by omega))]
    exact ⟨_, rfl, q1.sl _⟩
/-! what a cell does with light -/
def zq_ud (c : Nat) : Nat := if c < 3 then 0 else 2
def zq_ac (c : Nat) : Nat := if c = 1 ∨ c = 4 then 3 else 1
def zq_sd (c w : Nat) : Bool := decide (5 ≤ c ∨ (0 < c ∧ (w = zq_ud c ∨ w = zq_ac c)))
def zq_opp (w : Nat) : Nat := (w + 2) % 4
def zq_dx (w : Nat) : Int32 := if w = 1 then 1 else if w = 3 then -1 else 0
def zq_dy (w : Nat) : Int32 := if w = 2 then 1 else if w = 0 then -1 else 0
def zq_turn (c w : Nat) : Nat := if w % 2 = 0 then zq_ac c else zq_ud c
theorem zq_t1 : ∀ c, c < 7 → ∀ w, w < 4 → ((((zw_sl 2).getD c 0 >>> (nI w &&& 31)) &&& 1 = 1) ↔ zq_sd c w = true) := by decide +kernel
theorem zq_t2 : ∀ w, w < 4 → nI w ^^^ 2 = nI (zq_opp w) := by decide +kernel
theorem zq_t3 : ∀ c, c < 5 → ∀ w, w < 4 → zq_sd c (zq_opp w) = true → ((zw_sl 3).getD c 0 - nI (zq_opp w)) &&& 3 = nI (zq_turn c w) := by decide +kernel
theorem zq_t4 : ∀ w, w < 4 → (zw_sl 0).getD w 0 = zq_dx w ∧ (zw_sl 1).getD w 0 = zq_dy w := by decide +kernel
theorem zq_t5 : ∀ w, w < 4 → zq_opp w < 4 ∧ zq_opp (zq_opp w) = w := by decide +kernel
theorem zq_t6 : ∀ c, c < 7 → ∀ w, w < 4 → zq_turn c w < 4 ∧ (zq_sd c (zq_opp w) = true → c < 5 → zq_sd c (zq_turn c w) = true) := by decide +kernel
theorem zq_t7 : (zw_sl 0).length = 4 ∧ (zw_sl 1).length = 4 ∧ (zw_sl 2).length = 7 ∧ (zw_sl 3).length = 7 ∧ (zw_sl 4).length = 7 ∧ (zw_sl 5).length = 7 := by decide +kernel
/-- what the cell itself does: the way, the light, the sums -/
def zq_s1 (c w x : Nat) (l sl ea : Int32) (s : Nat → Int32) : Nat × Int32 × (Nat → Int32) := if c = 6 then (w, l - l * ea / 1000, zq_add (zq_add s 5 (l * ea / 1000)) 7 1) else if c < 5 then (zq_turn c w, l - l * sl / 1000, zq_go s w x (l * sl / 1000)) else (w, l, s)
/-- then on to the next cell, or back -/
def zq_s2 (d : zq_D) (fl : Int32) (x y w : Nat) (l : Int32) (s : Nat → Int32) : Nat × Nat × Nat × Int32 × (Nat → Int32) := if zq_sd (zq_at d (nI x + zq_dx w) (nI y + zq_dy w)) (zq_opp w) = true then ((nI x + zq_dx w).toNatClampNeg, (nI y + zq_dy w).toNatClampNeg, w, l, s) else (x, y, zq_opp w, l - l * fl / 1000, zq_go s w x (l * fl / 1000))
/-- x, y, way, light, steps, trace, sums -/
abbrev zq_P : Type := Nat × Nat × Nat × Int32 × Nat × (Nat → Int32) × (Nat → Int32)
def zq_step (d : zq_D) (fl sl ea : Int32) (p : zq_P) : zq_P :=
  let q := zq_s1 (d.c p.1 p.2.1) p.2.2.1 p.1 p.2.2.2.1 sl ea p.2.2.2.2.2.2
  let r := zq_s2 d fl p.1 p.2.1 q.1 q.2.1 q.2.2
  (r.1, r.2.1, r.2.2.1, r.2.2.2.1, p.2.2.2.2.1 + 1, zq_up p.2.2.2.2.2.1 p.2.2.2.2.1 (nI (12 * p.2.1 + p.1)), r.2.2.2.2)
def zq_LP (I0 I : zI) (o : Nat) (p : zq_P) (fl sl ea : Int32) : Prop := zq_LC I0 I o (nI p.1) (nI p.2.1) (nI p.2.2.1) p.2.2.2.1 p.2.2.2.2.1 p.2.2.2.2.2.1 p.2.2.2.2.2.2 fl sl ea
def zq_in (d : zq_D) (p : zq_P) : Prop := p.1 < d.w ∧ p.2.1 < d.t ∧ p.2.2.1 < 4 ∧ zq_sd (d.c p.1 p.2.1) (zq_opp p.2.2.1) = true
theorem zq_s1_in {d : zq_D} (ok : zq_ok d) {x y w : Nat} {l sl ea : Int32} {s : Nat → Int32} (hw : w < 4) (h : zq_sd (d.c x y) (zq_opp w) = true) : (zq_s1 (d.c x y) w x l sl ea s).1 < 4 ∧ (zq_sd (d.c x y) (zq_s1 (d.c x y) w x l sl ea s).1 = true) := by
  have c6 := ok.c6 x y
  have t6 := zq_t6 (d.c x y) (by omega) w hw
  unfold zq_s1
  by_cases h6 : d.c x y = 6
  · rw [if_pos h6]
    exact ⟨hw, by unfold zq_sd; rw [h6]; simp⟩
  · rw [if_neg h6]
    by_cases h5 : d.c x y < 5
    · rw [if_pos h5]
      exact ⟨t6.1, t6.2 h h5⟩
    · rw [if_neg h5]
      exact ⟨hw, by unfold zq_sd; rw [show d.c x y = 5 by omega]; simp⟩
theorem zq_sd0 (w : Nat) : zq_sd 0 w = false := by unfold zq_sd; simp
theorem zq_s2_in {d : zq_D} (ok : zq_ok d) {fl : Int32} {x y w : Nat} {l : Int32} {s : Nat → Int32} (hx : x < d.w) (hy : y < d.t) (hw : w < 4) (h : zq_sd (d.c x y) w = true) : (zq_s2 d fl x y w l s).1 < d.w ∧ (zq_s2 d fl x y w l s).2.1 < d.t ∧ (zq_s2 d fl x y w l s).2.2.1 < 4 ∧ zq_sd (d.c (zq_s2 d fl x y w l s).1 (zq_s2 d fl x y w l s).2.1) (zq_opp (zq_s2 d fl x y w l s).2.2.1) = true := by
  have w2 := ok.w2
  have t2 := ok.t2
  unfold zq_s2
  by_cases hs : zq_sd (zq_at d (nI x + zq_dx w) (nI y + zq_dy w)) (zq_opp w) = true
  · rw [if_pos hs]
    have hne : zq_at d (nI x + zq_dx w) (nI y + zq_dy w) ≠ 0 := by
      intro q
      rw [q, zq_sd0] at hs
      cases hs
    obtain ⟨a, b, ha, hb, e1, e2⟩ := zq_at_ne ok hne
    rw [e1, e2] at hs ⊢
    rw [zq_at_in ha hb w2 t2] at hs
    rw [zE_cl (by omega), zE_cl (by omega)]
    exact ⟨ha, hb, hw, hs⟩
  · rw [if_neg hs]
    exact ⟨hx, hy, (zq_t5 w hw).1, by rw [(zq_t5 w hw).2]; exact h⟩
theorem zq_step_in {d : zq_D} (ok : zq_ok d) {fl sl ea : Int32} {p : zq_P} (h : zq_in d p) : zq_in d (zq_step d fl sl ea p) := by
  obtain ⟨h1, h2, h3, h4⟩ := h
  have q := zq_s1_in (l := p.2.2.2.1) (sl := sl) (ea := ea) (s := p.2.2.2.2.2.2) ok h3 h4
  exact zq_s2_in ok h1 h2 q.1 q.2
theorem zq_DC_tr {I I2 : zI} {o : Nat} {d : zq_D} (h : zq_DC I o d) (h1 : I2 o = I o) (h2 : I2 (o + 1) = I (o + 1)) : zq_DC I2 o d := by
  unfold zq_DC
  rw [h1, h2]
  exact h
theorem zq_goAfterC {sw : Bool} {I0 I : zI} {o cu : Nat} {d : zq_D} {l : Int32} {n : Nat} {tr s : Nat → Int32} {fl sl ea : Int32} (hli : zq_li sw o) (hcu : zq_dr sw cu) (hcl : cu + 1 < o) (ok : zq_ok d) (dc : zq_DC I0 cu d) (x y w : Nat) (hx : x < d.w) (hy : y < d.t) (hw : w < 4) (h : zq_LC I0 I o (nI x) (nI y) (nI w) l n tr s fl sl ea) : ∃ I2, j_X2_goThrough_128 o cu I (zE_R sw) = some I2 ∧ zq_LC I0 I2 o (nI (zq_s2 d fl x y w l s).1) (nI (zq_s2 d fl x y w l s).2.1) (nI (zq_s2 d fl x y w l s).2.2.1) (zq_s2 d fl x y w l s).2.2.2.1 n tr (zq_s2 d fl x y w l s).2.2.2.2 fl sl ea := by
  have w2 := ok.w2
  have t2 := ok.t2
  have hli2 := hli
  obtain ⟨g1, g2, g3, g4, g5, g6, g7, g8, g9, g10⟩ := hli
  have e5 := h.2.2.2.2.2.2.1
  have e8 := h.2.2.2.2.2.2.2.2.2.1
  have e9 := h.2.2.2.2.2.2.2.2.2.2.1
  have e10 := h.2.2.2.2.2.2.2.2.2.2.2.1
  have dc2 : zq_DC I cu d := zq_DC_tr dc (h.1 cu (by omega)) (h.1 (cu + 1) (by omega))
  have a6 := zq_at_6 ok (nI x + zq_dx w) (nI y + zq_dy w)
  have ht := zq_t1 (zq_at d (nI x + zq_dx w) (nI y + zq_dy w)) (by omega) (zq_opp w) (zq_t5 w hw).1
  unfold j_X2_goThrough_128
  simp only [g1, zw_g_t, zw_let_e, e5, e8, e9, e10, zq_t7, zE_in (k := w) (n := 4) hw (by decide), zE_cl (k := w) (by omega), zq_t4 w hw, zq_t2 w hw, hcu.1, zq_cC hcu ok dc2, Option.bind_some, zE_in (k := zq_at d (nI x + zq_dx w) (nI y + zq_dy w)) (n := 7) (by omega) (by decide), zE_cl (k := zq_at d (nI x + zq_dx w) (nI y + zq_dy w)) (by omega)]
  unfold zq_s2
  by_cases hs : zq_sd (zq_at d (nI x + zq_dx w) (nI y + zq_dy w)) (zq_opp w) = true
  · rw [if_neg (fun q => q (ht.mpr hs)), if_pos hs]
    have hne : zq_at d (nI x + zq_dx w) (nI y + zq_dy w) ≠ 0 := by
      intro q
      rw [q, zq_sd0] at hs
      cases hs
    obtain ⟨a, b, ha, hb, e1, e2⟩ := zq_at_ne ok hne
    rw [e1, e2, zE_cl (by omega), zE_cl (by omega)]
    exact ⟨_, rfl, (h.sx _).sy _⟩
  · rw [if_pos (fun q => hs (ht.mp q)), if_neg hs]
    obtain ⟨I2, f1, f2⟩ := zq_goOutC hli2 x w (by omega) hw h fl
    rw [f1]
    exact ⟨_, rfl, f2.sw _⟩
theorem zq_goThroughC {sw : Bool} {I0 I : zI} {o cu : Nat} {d : zq_D} {fl sl ea : Int32} (hli : zq_li sw o) (hcu : zq_dr sw cu) (hcl : cu + 1 < o) (ok : zq_ok d) (dc : zq_DC I0 cu d) (p : zq_P) (hp : zq_in d p) (hn : p.2.2.2.2.1 < 300) (h : zq_LP I0 I o p fl sl ea) : ∃ I2, f_X2_goThrough o cu I (zE_R sw) = some I2 ∧ zq_LP I0 I2 o (zq_step d fl sl ea p) fl sl ea := by
  obtain ⟨x, y, w, l, n, tr, s⟩ := p
  obtain ⟨hx, hy, hw, hsd⟩ := hp
  unfold zq_LP at h
  dsimp only at hx hy hw hsd hn h
  have w2 := ok.w2
  have t2 := ok.t2
  have hli2 := hli
  obtain ⟨g1, g2, g3, g4, g5, g6, g7, g8, g9, g10⟩ := hli
  have e1 := h.2.1
  have e8 := h.2.2.2.2.2.2.2.2.2.1
  have e9 := h.2.2.2.2.2.2.2.2.2.2.1
  have dc2 : zq_DC I cu d := zq_DC_tr dc (h.1 cu (by omega)) (h.1 (cu + 1) (by omega))
  have c6 := ok.c6 x y
  have hi := zq_s1_in (l := l) (sl := sl) (ea := ea) (s := s) ok hw hsd
  have q0 := h.tr (nI (12 * y + x))
  have q01 := q0.2.1
  have q1 := q0.steps (by rw [zE_u1]; exact (if_pos rfl).symm)
  have f6 := q1.2.2.2.2.2.2.2.1
  have f7 := q1.2.2.2.2.2.2.2.2.1
  have f10 := q1.2.2.2.2.2.2.2.2.2.2.2.1
  have f11 := q1.2.2.2.2.2.2.2.2.2.2.2.2
  unfold f_X2_goThrough
  simp only [g1, g2, g3, g5, g6, g8, g9, zw_g_t, zw_let_e, e1, e8, e9, hcu.1, zq_cC hcu ok dc2, zq_at_in hx hy w2 t2, Option.bind_some, zE_in (k := n) (n := 300) hn (by decide), zE_cl (k := n) (by omega), zq_n12, q01, nI_1, f6, f7, f11]
  unfold zq_LP zq_step
  dsimp only
  by_cases h6 : d.c x y = 6
  · rw [if_neg (fun q => q (by rw [h6]; rfl))]
    rw [zE_in (k := 5) (n := 7) (by decide) (by decide) |> (fun q => show zw_in 5 7 = true from q), zw_g_t, zw_g_t, show Int32.toNatClampNeg 5 = 5 from by decide]
    have q2 := q1.sum 5 (by decide) (l * ea / 1000)
    have k11 := q2.2.2.2.2.2.2.2.2.2.2.2.2
    rw [k11]
    have q3 := (q2.sl (l - l * ea / 1000)).flaw 1
    obtain ⟨I2, r1, r2⟩ := zq_goAfterC hli2 hcu hcl ok dc x y w hx hy hw q3
    refine ⟨I2, r1, ?_⟩
    have es : zq_s1 (d.c x y) w x l sl ea s = (w, l - l * ea / 1000, zq_add (zq_add s 5 (l * ea / 1000)) 7 1) := by unfold zq_s1; rw [if_pos h6]
    rw [es]
    exact r2
  · rw [if_pos (show ¬ nI (d.c x y) = 6 from fun q => h6 ((nI_eq (by omega) (by decide)).mp (show nI (d.c x y) = nI 6 from q)))]
    by_cases h5 : d.c x y < 5
    · rw [if_neg (show ¬ (4 : Int32) < nI (d.c x y) from nI_nlt (a := 4) (b := d.c x y) (by omega) (by decide))]
      obtain ⟨I2, r1, r2⟩ := zq_goOutC hli2 x w (by omega) hw q1 sl
      have m10 := r2.2.2.2.2.2.2.2.2.2.2.2.1
      rw [r1]
      simp only [Option.bind_some, zq_t7, zE_in (k := d.c x y) (n := 7) (by omega) (by decide), zE_cl (k := d.c x y) (by omega), zw_g_t, m10, zq_t2 w hw, zq_t3 (d.c x y) h5 w hw hsd]
      obtain ⟨I3, r3, r4⟩ := zq_goAfterC hli2 hcu hcl ok dc x y (zq_turn (d.c x y) w) hx hy (zq_t6 (d.c x y) (by omega) w hw).1 (r2.sw (nI (zq_turn (d.c x y) w)))
      refine ⟨I3, r3, ?_⟩
      have es : zq_s1 (d.c x y) w x l sl ea s = (zq_turn (d.c x y) w, l - l * sl / 1000, zq_go s w x (l * sl / 1000)) := by unfold zq_s1; rw [if_neg h6, if_pos h5]
      rw [es]
      exact r4
    · rw [if_pos (show (4 : Int32) < nI (d.c x y) from nI_lt (a := 4) (b := d.c x y) (by omega) (by omega))]
      obtain ⟨I3, r3, r4⟩ := zq_goAfterC hli2 hcu hcl ok dc x y w hx hy hw q1
      refine ⟨I3, r3, ?_⟩
      have es : zq_s1 (d.c x y) w x l sl ea s = (w, l, s) := by unfold zq_s1; rw [if_neg h6, if_neg h5]
      rw [es]
      exact r4
/-- the light goes on while there is any, three hundred steps at most -/
def zq_run (d : zq_D) (fl sl ea : Int32) : Nat → zq_P → zq_P
  | 0, p => p
  | k + 1, p => if 0 < p.2.2.2.1 then zq_run d fl sl ea k (zq_step d fl sl ea p) else p
theorem zq_loopC {sw : Bool} {I0 I : zI} {o cu : Nat} {d : zq_D} {fl sl ea : Int32} (hli : zq_li sw o) (hcu : zq_dr sw cu) (hcl : cu + 1 < o) (ok : zq_ok d) (dc : zq_DC I0 cu d) (p : zq_P) (hp : zq_in d p) (hn : p.2.2.2.2.1 = 0) (h : zq_LP I0 I o p fl sl ea) : ∃ I2, zw_it (s_X2_follow_17 o cu (zE_R sw)) 1000000 (0, I) = some I2 ∧ zq_LP I0 I2 o (zq_run d fl sl ea 300 p) fl sl ea := by
  refine zE_loop (fun m st => ∃ p : zq_P, st.1 = nI p.2.2.2.2.1 ∧ p.2.2.2.2.1 + m = 300 ∧ zq_in d p ∧ zq_LP I0 st.2 o p fl sl ea ∧ zq_run d fl sl ea m p = zq_run d fl sl ea 300 _) (fun I2 => zq_LP I0 I2 o (zq_run d fl sl ea 300 _) fl sl ea) ?_ 1000000 300 (0, I) (by decide) ⟨p, by rw [hn]; rfl, by omega, hp, h, rfl⟩
  rintro m ⟨i, K⟩ ⟨p, e1, e2, hin, hl, hr⟩
  dsimp only at e1 hl
  subst e1
  have k11 : K o 11 = p.2.2.2.1 := hl.2.2.2.2.2.2.2.2.2.2.2.2
  unfold s_X2_follow_17
  dsimp only
  cases m with
  | zero =>
    refine Or.inr ⟨K, ?_, ?_⟩
    · rw [if_pos (show (300 : Int32) ≤ nI p.2.2.2.2.1 from nI_le (a := 300) (b := p.2.2.2.2.1) (by omega) (by omega))]
    · rw [← hr]; exact hl
  | succ m =>
    rw [if_neg (show ¬ (300 : Int32) ≤ nI p.2.2.2.2.1 from nI_ge (a := p.2.2.2.2.1) (b := 300) (by omega) (by decide)), hli.1, zw_g_t]
    by_cases hl0 : 0 < p.2.2.2.1
    · rw [if_neg (show ¬ K o 11 ≤ 0 by rw [k11]; exact fun q : p.2.2.2.1 ≤ 0 => absurd (Int32.le_iff_toInt_le.mp q) (by have := Int32.lt_iff_toInt_lt.mp hl0; omega))]
      obtain ⟨I2, f1, f2⟩ := zq_goThroughC hli hcu hcl ok dc p hin (by omega) hl
      rw [f1]
      refine Or.inl ⟨(nI (p.2.2.2.2.1 + 1), I2), m, by rw [Option.bind_some, zw_let_e, nI_1], by omega, zq_step d fl sl ea p, rfl, ?_, zq_step_in ok hin, f2, ?_⟩
      · show p.2.2.2.2.1 + 1 + m = 300
        omega
      · rw [← hr]
        show _ = if 0 < p.2.2.2.1 then _ else _
        rw [if_pos hl0]
    · rw [if_pos (show K o 11 ≤ 0 by rw [k11, Int32.le_iff_toInt_le]; rw [Int32.lt_iff_toInt_lt] at hl0; omega)]
      refine Or.inr ⟨K, rfl, ?_⟩
      rw [← hr]
      show zq_LP I0 K o (if 0 < p.2.2.2.1 then _ else p) fl sl ea
      rw [if_neg hl0]
      exact hl
/-! where the light of a lamp comes to a cell -/
def zq_px (d : zq_D) (lamp i s : Nat) : Int32 := if lamp = 0 then nI i else if lamp = 1 then nI d.w - 1 - nI s else nI s
def zq_py (lamp i s : Nat) : Int32 := if lamp = 0 then nI s else nI i
def zq_la (d : zq_D) (lamp i s : Nat) : Nat := zq_at d (zq_px d lamp i s) (zq_py lamp i s)
def zq_fst (g : Nat → Nat) : Nat → Nat → Nat
  | 0, s => s
  | k + 1, s => if g s = 0 then zq_fst g k (s + 1) else s
theorem zq_fst_p (g : Nat → Nat) : ∀ k s, s ≤ zq_fst g k s ∧ zq_fst g k s ≤ s + k ∧ (∀ j, s ≤ j → j < zq_fst g k s → g j = 0) ∧ (zq_fst g k s < s + k → g (zq_fst g k s) ≠ 0)
  | 0, s => ⟨Nat.le_refl s, Nat.le_refl s, fun j h1 h2 => absurd h2 (by unfold zq_fst; omega), fun h => absurd h (by unfold zq_fst; omega)⟩
  | k + 1, s => by
    have ih := zq_fst_p g k (s + 1)
    unfold zq_fst
    by_cases c : g s = 0
    · rw [if_pos c]
      refine ⟨by omega, by omega, fun j h1 h2 => ?_, fun h => ih.2.2.2 (by omega)⟩
      by_cases q : j = s
      · rw [q]; exact c
      · exact ih.2.2.1 j (by omega) h2
    · rw [if_neg c]
      exact ⟨by omega, by omega, fun j h1 h2 => by omega, fun _ => c⟩
def zq_ent (d : zq_D) (lamp i : Nat) : Nat := min (zq_fst (zq_la d lamp i) 12 0) 11
def zq_lamp (d : zq_D) (fl sl ea : Int32) (lamp i : Nat) (l : Int32) (tr s : Nat → Int32) : Nat × (Nat → Int32) × (Nat → Int32) :=
  if zq_sd (zq_la d lamp i (zq_ent d lamp i)) lamp = true then
    let p := zq_run d fl sl ea 300 ((zq_px d lamp i (zq_ent d lamp i)).toNatClampNeg, (zq_py lamp i (zq_ent d lamp i)).toNatClampNeg, zq_opp lamp, l * fl / 1000, 0, tr, zq_add s 4 (l - l * fl / 1000))
    (p.2.2.2.2.1, p.2.2.2.2.2.1, zq_add p.2.2.2.2.2.2 6 p.2.2.2.1)
  else (0, tr, zq_add s 4 l)
theorem zq_sub1 (a b : Int32) : a - (b + 1) = a - b + (-1) := by
  rw [Int32.sub_eq_add_neg a (b + 1), Int32.neg_add, Int32.sub_eq_add_neg (-b) 1, ← Int32.add_assoc, ← Int32.sub_eq_add_neg a b]
theorem zq_px1 (d : zq_D) (lamp i s : Nat) (h : lamp = 0 ∨ lamp = 1 ∨ lamp = 3) : zq_px d lamp i (s + 1) = zq_px d lamp i s + zq_dx (zq_opp lamp) ∧ zq_py lamp i (s + 1) = zq_py lamp i s + zq_dy (zq_opp lamp) := by
  rcases h with rfl | rfl | rfl
  · exact ⟨(Int32.add_zero _).symm, (nI_1 s).symm⟩
  · refine ⟨?_, (Int32.add_zero _).symm⟩
    show nI d.w - 1 - nI (s + 1) = nI d.w - 1 - nI s + (-1)
    rw [nI_succ, zq_sub1]
  · exact ⟨(nI_1 s).symm, (Int32.add_zero _).symm⟩
theorem zq_enterLoopC {sw : Bool} {I0 I : zI} {o cu : Nat} {d : zq_D} {l v2 v4 : Int32} {n : Nat} {tr s : Nat → Int32} {fl sl ea : Int32} (hli : zq_li sw o) (hcu : zq_dr sw cu) (hcl : cu + 1 < o) (ok : zq_ok d) (dc : zq_DC I0 cu d) (lamp i : Nat) (hlamp : lamp = 0 ∨ lamp = 1 ∨ lamp = 3) (h : zq_LC I0 I o (zq_px d lamp i 0) (zq_py lamp i 0) (nI (zq_opp lamp)) l n tr s fl sl ea) : ∃ I2, zw_it (s_X2_enter_50 o cu v2 v4 (zE_R sw)) 1000000 (1, I) = some I2 ∧ zq_LC I0 I2 o (zq_px d lamp i (zq_ent d lamp i)) (zq_py lamp i (zq_ent d lamp i)) (nI (zq_opp lamp)) l n tr s fl sl ea := by
  have hf := zq_fst_p (zq_la d lamp i) 12 0
  have h4 : zq_opp lamp < 4 := Nat.mod_lt _ (by decide)
  refine zE_loop (fun m st => ∃ k : Nat, st.1 = nI (k + 1) ∧ k + m = 11 ∧ k ≤ zq_fst (zq_la d lamp i) 12 0 ∧ zq_LC I0 st.2 o (zq_px d lamp i k) (zq_py lamp i k) (nI (zq_opp lamp)) l n tr s fl sl ea) (fun I2 => zq_LC I0 I2 o (zq_px d lamp i (zq_ent d lamp i)) (zq_py lamp i (zq_ent d lamp i)) (nI (zq_opp lamp)) l n tr s fl sl ea) ?_ 1000000 11 (1, I) (by decide) ⟨0, rfl, rfl, Nat.zero_le _, h⟩
  rintro m ⟨q, K⟩ ⟨k, e1, e2, e3, hl⟩
  dsimp only at e1 hl
  subst e1
  have k8 := hl.2.2.2.2.2.2.2.2.2.1
  have k9 := hl.2.2.2.2.2.2.2.2.2.2.1
  have k10 := hl.2.2.2.2.2.2.2.2.2.2.2.1
  have dc2 : zq_DC K cu d := zq_DC_tr dc (hl.1 cu (by omega)) (hl.1 (cu + 1) (by omega))
  have a6 := zq_at_6 ok (zq_px d lamp i k) (zq_py lamp i k)
  unfold s_X2_enter_50
  simp only [hli.1, hcu.1, zw_g_t, k8, k9, k10, zq_cC hcu ok dc2, Option.bind_some]
  cases m with
  | zero =>
    refine Or.inr ⟨K, ?_, ?_⟩
    · rw [if_pos (show (12 : Int32) ≤ nI (k + 1) from nI_le (a := 12) (b := k + 1) (by omega) (by omega))]
    · rw [show zq_ent d lamp i = k by unfold zq_ent; omega]
      exact hl
  | succ m =>
    rw [if_neg (show ¬ (12 : Int32) ≤ nI (k + 1) from nI_ge (a := k + 1) (b := 12) (by omega) (by decide))]
    by_cases hg : zq_la d lamp i k = 0
    · have hk : k ≠ zq_fst (zq_la d lamp i) 12 0 := by
        intro q
        exact hf.2.2.2 (by omega) (by rw [← q]; exact hg)
      rw [if_neg (fun q => q (by rw [show zq_at d (zq_px d lamp i k) (zq_py lamp i k) = 0 from hg]; rfl))]
      have m1 := hl.sx (zq_px d lamp i (k + 1))
      have m10 := m1.2.2.2.2.2.2.2.2.2.2.2.1
      have m9 := m1.2.2.2.2.2.2.2.2.2.2.1
      have hp := zq_px1 d lamp i k hlamp
      refine Or.inl ⟨(nI (k + 1 + 1), zw_u (zw_u K o 8 (zq_px d lamp i (k + 1))) o 9 (zq_py lamp i (k + 1))), m, ?_, by omega, k + 1, rfl, by omega, by omega, m1.sy _⟩
      simp only [zw_let_e, zq_t7, zE_in (k := zq_opp lamp) (n := 4) h4 (by decide), zE_cl (k := zq_opp lamp) (by omega), zq_t4 _ h4, zw_g_t, ← hp.1, m10, m9, ← hp.2, nI_1]
    · have hk : k = zq_fst (zq_la d lamp i) 12 0 := by
        by_cases q : k < zq_fst (zq_la d lamp i) 12 0
        · exact absurd (hf.2.2.1 k (Nat.zero_le _) q) hg
        · omega
      rw [if_pos (nI_ne0 (n := zq_at d (zq_px d lamp i k) (zq_py lamp i k)) (Nat.pos_of_ne_zero hg) (by omega))]
      refine Or.inr ⟨K, rfl, ?_⟩
      rw [show zq_ent d lamp i = k by unfold zq_ent; omega]
      exact hl
theorem zq_add0 (s : Nat → Int32) (j : Nat) : zq_add s j 0 = s := by
  funext i
  unfold zq_add
  split
  · exact Int32.add_zero _
  · rfl
/-- behind the way in: what comes in, and GLARE -/
theorem zq_enterEndC {sw : Bool} {I0 I : zI} {o cu : Nat} {d : zq_D} {l l0 : Int32} {n : Nat} {tr s : Nat → Int32} {fl sl ea x y w : Int32} (hli : zq_li sw o) (hcu : zq_dr sw cu) (hcl : cu + 1 < o) (ok : zq_ok d) (dc : zq_DC I0 cu d) (lamp : Nat) (hlamp : lamp < 4) (h : zq_LC I0 I o x y w l0 n tr s fl sl ea) : ∃ I2, j_X2_enter_112 o cu (nI lamp) l I (zE_R sw) = some I2 ∧ zq_LC I0 I2 o x y w (if zq_sd (zq_at d x y) lamp = true then l * fl / 1000 else 0) n tr (zq_add s 4 (if zq_sd (zq_at d x y) lamp = true then l - l * fl / 1000 else l)) fl sl ea := by
  obtain ⟨g1, g2, g3, g4, g5, g6, g7, g8, g9, g10⟩ := hli
  have k5 := h.2.2.2.2.2.2.1
  have k8 := h.2.2.2.2.2.2.2.2.2.1
  have k9 := h.2.2.2.2.2.2.2.2.2.2.1
  have dc2 : zq_DC I cu d := zq_DC_tr dc (h.1 cu (by omega)) (h.1 (cu + 1) (by omega))
  have a6 := zq_at_6 ok x y
  have ht := zq_t1 (zq_at d x y) (by omega) lamp hlamp
  unfold j_X2_enter_112 j_X2_enter_141 j_X2_enter_164
  simp only [g1, g3, g6, g9, hcu.1, zw_g_t, zw_let_e, k5, k8, k9, zq_cC hcu ok dc2, Option.bind_some, zq_t7, zE_in (k := zq_at d x y) (n := 7) (by omega) (by decide), zE_cl (k := zq_at d x y) (by omega), show zw_in 4 7 = true from rfl, show Int32.toNatClampNeg 4 = 4 from rfl]
  by_cases hs : zq_sd (zq_at d x y) lamp = true
  · rw [if_neg (fun q => q (ht.mpr hs)), if_neg zE_10, if_pos hs, if_pos hs, zE_u1]
    exact ⟨_, rfl, (h.sl _).sum 4 (by decide) _⟩
  · rw [if_pos (fun q => hs (ht.mp q)), if_pos trivial, if_neg hs, if_neg hs, zE_u1, Int32.sub_zero]
    exact ⟨_, rfl, (h.sl _).sum 4 (by decide) _⟩
theorem zq_enterC {sw : Bool} {I0 I : zI} {o cu : Nat} {d : zq_D} {l l0 : Int32} {n : Nat} {tr s : Nat → Int32} {fl sl ea x y w : Int32} (hli : zq_li sw o) (hcu : zq_dr sw cu) (hcl : cu + 1 < o) (ok : zq_ok d) (dc : zq_DC I0 cu d) (lamp i : Nat) (hlamp : lamp = 0 ∨ lamp = 1 ∨ lamp = 3) (h : zq_LC I0 I o x y w l0 n tr s fl sl ea) : ∃ I2, f_X2_enter o cu (nI lamp) (nI i) l I (zE_R sw) = some I2 ∧ zq_LC I0 I2 o (zq_px d lamp i (zq_ent d lamp i)) (zq_py lamp i (zq_ent d lamp i)) (nI (zq_opp lamp)) (if zq_sd (zq_la d lamp i (zq_ent d lamp i)) lamp = true then l * fl / 1000 else 0) n tr (zq_add s 4 (if zq_sd (zq_la d lamp i (zq_ent d lamp i)) lamp = true then l - l * fl / 1000 else l)) fl sl ea := by
  have h4 : lamp < 4 := by omega
  have m1 := h.sw (nI (zq_opp lamp))
  have dcw : zw_u I o 10 (nI (zq_opp lamp)) cu 1 = nI d.w := by rw [m1.1 cu (by omega)]; exact dc.w
  have key : ∀ I4, zq_LC I0 I4 o (zq_px d lamp i 0) (zq_py lamp i 0) (nI (zq_opp lamp)) l0 n tr s fl sl ea → ∃ I2, ((zw_it (s_X2_enter_50 o cu (nI lamp) l (zE_R sw)) 1000000 (1, I4)).bind fun q20 => (j_X2_enter_112 o cu (nI lamp) l q20 (zE_R sw))) = some I2 ∧ zq_LC I0 I2 o (zq_px d lamp i (zq_ent d lamp i)) (zq_py lamp i (zq_ent d lamp i)) (nI (zq_opp lamp)) (if zq_sd (zq_la d lamp i (zq_ent d lamp i)) lamp = true then l * fl / 1000 else 0) n tr (zq_add s 4 (if zq_sd (zq_la d lamp i (zq_ent d lamp i)) lamp = true then l - l * fl / 1000 else l)) fl sl ea := by
    intro I4 h4
    obtain ⟨I5, f1, f2⟩ := zq_enterLoopC (v2 := nI lamp) (v4 := l) hli hcu hcl ok dc lamp i hlamp h4
    rw [f1, Option.bind_some]
    exact zq_enterEndC hli hcu hcl ok dc lamp (by omega) f2
  unfold f_X2_enter j_X2_enter_31 j_X2_enter_44
  simp only [hli.1, hcu.1, zw_g_t, zw_let_e, zq_t2 lamp h4, dcw]
  rcases hlamp with rfl | rfl | rfl
  · rw [if_neg (fun q => q rfl), if_neg (fun q => q rfl)]
    exact key _ ((m1.sx _).sy _)
  · rw [if_pos (by decide), if_neg (fun q => q rfl), if_pos (by decide)]
    have e : zq_px d 1 i 0 = nI d.w - 1 := Int32.sub_zero _
    exact key _ (by rw [e]; exact ((m1.sx _).sy _))
  · rw [if_pos (by decide), if_pos (by decide), if_pos (by decide)]
    exact key _ ((m1.sx _).sy _)
theorem zq_followC {sw : Bool} {I0 I : zI} {o cu : Nat} {d : zq_D} {l l0 : Int32} {n : Nat} {tr s : Nat → Int32} {fl sl ea x y w : Int32} (hli : zq_li sw o) (hcu : zq_dr sw cu) (hcl : cu + 1 < o) (ok : zq_ok d) (dc : zq_DC I0 cu d) (lamp i : Nat) (hlamp : lamp = 0 ∨ lamp = 1 ∨ lamp = 3) (h : zq_LC I0 I o x y w l0 n tr s fl sl ea) : ∃ I2 x2 y2 w2 l2, f_X2_follow o cu (nI lamp) (nI i) l I (zE_R sw) = some I2 ∧ zq_LC I0 I2 o x2 y2 w2 l2 (zq_lamp d fl sl ea lamp i l tr s).1 (zq_lamp d fl sl ea lamp i l tr s).2.1 (zq_lamp d fl sl ea lamp i l tr s).2.2 fl sl ea := by
  have w2 := ok.w2
  have t2 := ok.t2
  have h4 : zq_opp lamp < 4 := Nat.mod_lt _ (by decide)
  have e4 : zq_opp (zq_opp lamp) = lamp := (zq_t5 lamp (by omega)).2
  have hli2 := hli
  obtain ⟨g1, g2, g3, g4, g5, g6, g7, g8, g9, g10⟩ := hli
  unfold f_X2_follow j_X2_follow_43
  simp only [g1, g3, g6, g9, zw_g_t, zw_let_e, show zw_in 6 7 = true from rfl, show Int32.toNatClampNeg 6 = 6 from rfl]
  obtain ⟨I3, f1, f2⟩ := zq_enterC (l := l) hli2 hcu hcl ok dc lamp i hlamp h.steps0
  rw [f1, Option.bind_some]
  by_cases hs : zq_sd (zq_la d lamp i (zq_ent d lamp i)) lamp = true
  · rw [if_pos hs, if_pos hs] at f2
    have hne : zq_at d (zq_px d lamp i (zq_ent d lamp i)) (zq_py lamp i (zq_ent d lamp i)) ≠ 0 := by
      intro q
      unfold zq_la at hs
      rw [q, zq_sd0] at hs
      cases hs
    obtain ⟨a, b, ha, hb, e1, e2⟩ := zq_at_ne ok hne
    have hla : zq_la d lamp i (zq_ent d lamp i) = d.c a b := by unfold zq_la; rw [e1, e2, zq_at_in ha hb w2 t2]
    have f3 : zq_LP I0 I3 o (a, b, zq_opp lamp, l * fl / 1000, 0, tr, zq_add s 4 (l - l * fl / 1000)) fl sl ea := by
      unfold zq_LP
      rw [e1, e2] at f2
      exact f2
    obtain ⟨I4, r1, r2⟩ := zq_loopC hli2 hcu hcl ok dc (a, b, zq_opp lamp, l * fl / 1000, 0, tr, zq_add s 4 (l - l * fl / 1000)) ⟨ha, hb, h4, by show zq_sd (d.c a b) (zq_opp (zq_opp lamp)) = true; rw [e4, ← hla]; exact hs⟩ rfl f3
    have es : zq_lamp d fl sl ea lamp i l tr s = ((zq_run d fl sl ea 300 (a, b, zq_opp lamp, l * fl / 1000, 0, tr, zq_add s 4 (l - l * fl / 1000))).2.2.2.2.1, (zq_run d fl sl ea 300 (a, b, zq_opp lamp, l * fl / 1000, 0, tr, zq_add s 4 (l - l * fl / 1000))).2.2.2.2.2.1, zq_add (zq_run d fl sl ea 300 (a, b, zq_opp lamp, l * fl / 1000, 0, tr, zq_add s 4 (l - l * fl / 1000))).2.2.2.2.2.2 6 (zq_run d fl sl ea 300 (a, b, zq_opp lamp, l * fl / 1000, 0, tr, zq_add s 4 (l - l * fl / 1000))).2.2.2.1) := by
      unfold zq_lamp
      rw [if_pos hs, e1, e2, zE_cl (by omega), zE_cl (by omega)]
    rw [es, r1, Option.bind_some]
    have m11 := r2.2.2.2.2.2.2.2.2.2.2.2.2
    rw [m11]
    exact ⟨_, _, _, _, _, rfl, zq_LC.sum r2 6 (by decide) _⟩
  · rw [if_neg hs, if_neg hs] at f2
    have m11 := f2.2.2.2.2.2.2.2.2.2.2.2.2
    have es : zq_lamp d fl sl ea lamp i l tr s = (0, tr, zq_add s 4 l) := by unfold zq_lamp; rw [if_neg hs]
    have e5 : zw_it (s_X2_follow_17 o cu (zE_R sw)) 1000000 (0, I3) = some I3 := zE_it0 999999 (by
      unfold s_X2_follow_17
      dsimp only
      rw [if_neg (by decide), g1, zw_g_t, if_pos (by rw [m11]; decide)])
    rw [es, e5, Option.bind_some, m11]
    have m := f2.sum 6 (by decide) 0
    rw [zq_add0] at m
    exact ⟨_, _, _, _, _, rfl, m⟩
