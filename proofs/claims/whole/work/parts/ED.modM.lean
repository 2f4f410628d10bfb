/-! ===== the model between two tokens of a TELL ===== -/
/-- how many places of an array belong to one side -/
def zx_W (a : Nat) : Nat := if a = 159 ∨ a = 160 then 16 else if a = 161 then 4 else if a = 164 ∨ a = 165 then 10 else if a = 166 then 1440 else if 169 ≤ a ∧ a ≤ 172 then 16 else if 173 ≤ a ∧ a ≤ 178 then 200 else if a = 179 ∨ a = 180 then 520 else 1
def zx_fd (y : Nat) : Prop := y = 11 ∨ y = 12 ∨ y = 13 ∨ y = 14 ∨ y = 15 ∨ y = 16 ∨ y = 37 ∨ y = 44 ∨ y = 48
/-- nothing of the side in use has changed -/
def zx_Fm (b : Bool) (I0 I : zI) : Prop := (∀ a, a ≠ 148 → ¬ (156 ≤ a ∧ a ≤ 181) → I a = I0 a) ∧ (∀ y, ¬ zx_fd y → I 148 y = I0 148 y) ∧ ∀ a i, 156 ≤ a → a ≤ 180 → zq_lv (!b) * zx_W a ≤ i → i < (zq_lv (!b) + 1) * zx_W a → I a i = I0 a i
theorem zx_nl {b : Bool} {W i : Nat} (h1 : zq_lv b * W ≤ i) (h2 : i < (zq_lv b + 1) * W) (h3 : zq_lv (!b) * W ≤ i) (h4 : i < (zq_lv (!b) + 1) * W) : False := by
  cases b
  · have h2 : i < (0 + 1) * W := h2
    have h3 : 1 * W ≤ i := h3
    omega
  · have h1 : 1 * W ≤ i := h1
    have h4 : i < (0 + 1) * W := h4
    omega
theorem zx_Fm.w {b : Bool} {I0 I : zI} (h : zx_Fm b I0 I) {a i : Nat} (v : Int32) (a1 : 156 ≤ a) (a2 : a ≤ 180) (h1 : zq_lv b * zx_W a ≤ i) (h2 : i < (zq_lv b + 1) * zx_W a) : zx_Fm b I0 (zw_u I a i v) := by
  refine ⟨fun c x1 x2 => by rw [zw_u_off _ _ _ (by omega)]; exact h.1 c x1 x2, fun y hy => by rw [zw_u_off _ _ _ (by omega)]; exact h.2.1 y hy, fun c j x1 x2 x3 x4 => ?_⟩
  have ne : ¬ (c = a ∧ j = i) := by
    rintro ⟨rfl, rfl⟩
    exact zx_nl h1 h2 x3 x4
  rw [zE_u2 _ _ ne]
  exact h.2.2 c j x1 x2 x3 x4
theorem zx_Fm.f {b : Bool} {I0 I : zI} (h : zx_Fm b I0 I) {y : Nat} (v : Int32) (hy : zx_fd y) : zx_Fm b I0 (zw_u I 148 y v) := by
  refine ⟨fun c x1 x2 => by rw [zw_u_off _ _ _ x1]; exact h.1 c x1 x2, fun z hz => ?_, fun c j x1 x2 x3 x4 => by rw [zw_u_off _ _ _ (by omega)]; exact h.2.2 c j x1 x2 x3 x4⟩
  have ne : z ≠ y := fun e => hz (by rw [e]; exact hy)
  rw [zE_u2 _ _ (by omega)]
  exact h.2.1 z hz
/-- code and literals stand -/
def zx_cl (sd : Nat) (I I3 : zI) (m l : Nat) : Prop := zm_Cl I I3 (520 * sd) m (200 * sd) l
theorem zx_cl_tr {sd : Nat} {I I2 I3 : zI} {m l m2 l2 : Nat} (h : zx_cl sd I I2 m l) (h2 : zx_cl sd I2 I3 m2 l2) (hm : m ≤ m2) (hl : l ≤ l2) : zx_cl sd I I3 m l := ⟨fun i i1 i2 => ⟨(h2.1 i i1 (by omega)).1.trans (h.1 i i1 i2).1, (h2.1 i i1 (by omega)).2.trans (h.1 i i1 i2).2⟩, fun a i x1 x2 i1 i2 => (h2.2 a i x1 x2 i1 (by omega)).trans (h.2 a i x1 x2 i1 i2)⟩
theorem zx_cl_eq {sd : Nat} {I I2 : zI} {m l : Nat} (h : ∀ a, 173 ≤ a → a ≤ 180 → I2 a = I a) : zx_cl sd I I2 m l := ⟨fun i _ _ => by rw [h 179 (by decide) (by decide), h 180 (by decide) (by decide)]; exact ⟨rfl, rfl⟩, fun a i x1 x2 _ _ => by rw [h a x1 (by omega)]⟩
/-- a rule of the model: its code lies below m, its literals below l -/
def zx_rm (sd : Nat) (I : zI) (m l j : Nat) (e : List zr_C) (ls : List zr_L) : Prop := ∃ f l0, I 169 j = nI f ∧ I 170 j = nI (f + e.length) ∧ (520 * sd ≤ f ∧ f + e.length ≤ m) ∧ zr_sg (I 179) (I 180) f e ∧ I 171 j = nI l0 ∧ I 172 j = nI (l0 + ls.length) ∧ l0 + ls.length ≤ l ∧ ∀ I3, zx_cl sd I I3 m l → zr_LsM I3 l0 ls
theorem zx_rm_tr {sd : Nat} {I I2 : zI} {m l m2 l2 j : Nat} {e : List zr_C} {ls : List zr_L} (h : zx_rm sd I m l j e ls) (hj : ∀ a, 169 ≤ a → a ≤ 172 → I2 a j = I a j) (hc : zx_cl sd I I2 m l) (hm : m ≤ m2) (hl : l ≤ l2) : zx_rm sd I2 m2 l2 j e ls := by
  obtain ⟨f, l0, q1, q2, q3, q4, q5, q6, q7, q8⟩ := h
  exact ⟨f, l0, (hj 169 (by decide) (by decide)).trans q1, (hj 170 (by decide) (by decide)).trans q2, by omega, zr_sg_tr q4 (fun i i1 i2 => hc.1 i (by omega) (by omega)), (hj 171 (by decide) (by decide)).trans q5, (hj 172 (by decide) (by decide)).trans q6, by omega, fun I3 h3 => q8 I3 (zx_cl_tr hc h3 hm hl)⟩
/-- what the side read holds -/
def zx_KM (b : Bool) (I : zI) (m l : Nat) (H : zq_H) (Q : zr_Q) : Prop := (∀ k, k < H.ns → (∀ c, c < 4 → I 159 (4 * (4 * zq_lv b + k) + c) = nI (H.fl k c) ∧ I 160 (4 * (4 * zq_lv b + k) + c) = nI (H.sl k c)) ∧ I 161 (4 * zq_lv b + k) = nI (H.ea k)) ∧ (∀ k, H.has k → zq_ok (H.D k) ∧ zq_DM I (10 * zq_lv b + k) (H.D k)) ∧ ∀ k, zr_has Q k → zx_rm (zq_lv b) I m l (16 * zq_lv b + k) (Q.2.2.1 k) (Q.2.2.2 k)
theorem zx_KM_tr {b : Bool} {I I2 : zI} {m l : Nat} {H : zq_H} {Q : zr_Q} (h : zx_KM b I m l H Q) (f : ∀ a, 159 ≤ a → a ≤ 180 → I2 a = I a) : zx_KM b I2 m l H Q := by
  obtain ⟨h1, h2, h3⟩ := h
  refine ⟨fun k hk => ?_, fun k hk => ⟨(h2 k hk).1, zq_DM_tr (h2 k hk).2 (f 164 (by decide) (by decide)) (f 165 (by decide) (by decide)) (f 166 (by decide) (by decide))⟩, fun k hk => zx_rm_tr (h3 k hk) (fun a x1 x2 => by rw [f a (by omega) (by omega)]) (zx_cl_eq (fun a x1 x2 => f a (by omega) x2)) (Nat.le_refl _) (Nat.le_refl _)⟩
  rw [f 159 (by decide) (by decide), f 160 (by decide) (by decide), f 161 (by decide) (by decide)]
  exact h1 k hk
def zx_NM (b : Bool) (I : zI) (J : zJ) (ts : List Nat) : Prop := I 156 (zq_lv b) = nI ts.length ∧ ∀ v, (∃ i, i < ts.length ∧ J 157 (30 * zq_lv b + i) = v) ↔ ∃ u, u ∈ ts ∧ J 154 u = v
def zx_8 (b : Bool) (I : zI) (t : Nat) (q : Nat × Nat) : Prop := I 148 13 = 0 ∧ I 148 11 = nI t ∧ I 148 12 = 0 ∧ I 148 19 = nI (zq_lv b) ∧ I 148 15 = nI q.1 ∧ ∃ p, p ≤ 2000 ∧ I 148 16 = nI p ∧ (q.1 ≠ 0 → p = q.2)
/-- at token t; σ is told -/
def zx_M (b : Bool) (T : Nat → Nat) (n : Nat) (I0 I : zI) (J : zJ) (t : Nat) (σ : zx_S) : Prop := zx_Fm b I0 I ∧ zx_8 b I t σ.2.2.2 ∧ zp_Y T n I J ∧ zt_TM I T n ∧ zx_NM b I J σ.2.2.1 ∧ (I 158 (zq_lv b) = nI σ.1.ns ∧ I 162 (zq_lv b) = nI σ.1.nc ∧ I 163 (zq_lv b) = nI σ.1.nr ∧ I 167 (zq_lv b) = nI σ.2.1.1 ∧ I 168 (zq_lv b) = nI σ.2.1.2.1) ∧ ∃ m l, I 148 44 = nI m ∧ I 148 37 = nI l ∧ 520 * zq_lv b ≤ m ∧ m ≤ 520 * zq_lv b + t ∧ 200 * zq_lv b ≤ l ∧ 3 * l ≤ 600 * zq_lv b + t ∧ (σ.2.2.2.1 = 0 → zx_KM b I m l σ.1 σ.2.1)
/-- behind a fault -/
def zx_MF (b : Bool) (T : Nat → Nat) (n : Nat) (I0 I : zI) (f e : Nat) : Prop := zx_Fm b I0 I ∧ (f = 1 ∨ f = 2) ∧ I 148 13 = nI f ∧ I 148 14 = nI (zt_a T n e) ∧ I 148 19 = nI (zq_lv b) ∧ ∃ t, t ≤ 500 ∧ I 148 11 = nI t ∧ ∃ p, p ≤ 2000 ∧ I 148 16 = nI p
theorem zx_MF.ne {b : Bool} {T : Nat → Nat} {n : Nat} {I0 I : zI} {f e : Nat} (h : zx_MF b T n I0 I f e) : ¬ I 148 13 = 0 ∧ ¬ I 148 13 ≤ 0 := by
  rw [h.2.2.1]
  rcases h.2.1 with rfl | rfl <;> decide
theorem zx_MF.w {b : Bool} {T : Nat → Nat} {n : Nat} {I0 I : zI} {f e : Nat} (h : zx_MF b T n I0 I f e) {a i : Nat} (v : Int32) (a1 : 156 ≤ a) (a2 : a ≤ 180) (h1 : zq_lv b * zx_W a ≤ i) (h2 : i < (zq_lv b + 1) * zx_W a) : zx_MF b T n I0 (zw_u I a i v) f e := by
  obtain ⟨b1, b2, b3, b4, b5, t, b6, b7, p, b8, b9⟩ := h
  exact ⟨b1.w v a1 a2 h1 h2, b2, by rw [zw_u_off _ _ _ (by omega)]; exact b3, by rw [zw_u_off _ _ _ (by omega)]; exact b4, by rw [zw_u_off _ _ _ (by omega)]; exact b5, t, b6, by rw [zw_u_off _ _ _ (by omega)]; exact b7, p, b8, by rw [zw_u_off _ _ _ (by omega)]; exact b9⟩
theorem zx_MF.f {b : Bool} {T : Nat → Nat} {n : Nat} {I0 I : zI} {f e : Nat} (h : zx_MF b T n I0 I f e) {y : Nat} (v : Int32) (hy : y = 12 ∨ y = 37 ∨ y = 44 ∨ y = 48) : zx_MF b T n I0 (zw_u I 148 y v) f e := by
  obtain ⟨b1, b2, b3, b4, b5, t, b6, b7, p, b8, b9⟩ := h
  exact ⟨b1.f v (by unfold zx_fd; omega), b2, by rw [zE_u2 _ _ (by omega)]; exact b3, by rw [zE_u2 _ _ (by omega)]; exact b4, by rw [zE_u2 _ _ (by omega)]; exact b5, t, b6, by rw [zE_u2 _ _ (by omega)]; exact b7, p, b8, by rw [zE_u2 _ _ (by omega)]; exact b9⟩
def zx_RM (b : Bool) (T : Nat → Nat) (n : Nat) (I0 I : zI) (J : zJ) (ω : zx_O) : Prop := match ω with
  | .inl x => zx_M b T n I0 I J x.1 x.2
  | .inr y => zx_MF b T n I0 I y.1 y.2
/-- nothing but the object's own fields, and names' number -/
theorem zx_M_tr {b : Bool} {T : Nat → Nat} {n : Nat} {I0 I I2 : zI} {J J2 : zJ} {t t2 : Nat} {σ : zx_S} {ts2 : List Nat} {q2 : Nat × Nat} (h : zx_M b T n I0 I J t σ) (f : ∀ a, a ≠ 148 → a ≠ 156 → I2 a = I a) (fy : ∀ y, y ≠ 11 → y ≠ 14 → y ≠ 15 → y ≠ 16 → I2 148 y = I 148 y) (f156 : ∀ i, i ≠ zq_lv b → I2 156 i = I 156 i) (h11 : I2 148 11 = nI t2) (ht : t ≤ t2) (hq : I2 148 15 = nI q2.1 ∧ ∃ p, p ≤ 2000 ∧ I2 148 16 = nI p ∧ (q2.1 ≠ 0 → p = q2.2)) (hN : zx_NM b I2 J2 ts2) (hJ : J2 154 = J 154) (h0 : q2.1 = 0 → σ.2.2.2.1 = 0) : zx_M b T n I0 I2 J2 t2 (σ.1, σ.2.1, ts2, q2) := by
  have hl := zq_lv1 b
  obtain ⟨⟨f1, f2, f3⟩, ⟨b1, b2, b3, b4, b5, b6⟩, a3, a4, a5, ⟨c1, c2, c3, c4, c5⟩, m, l, d1, d2, d3, d4, d5, d6, d7⟩ := h
  refine ⟨⟨fun a x1 x2 => by rw [f a x1 (by omega)]; exact f1 a x1 x2, fun y hy => ?_, fun a i x1 x2 x3 x4 => ?_⟩, ⟨(fy 13 (by decide) (by decide) (by decide) (by decide)).trans b1, h11, (fy 12 (by decide) (by decide) (by decide) (by decide)).trans b3, (fy 19 (by decide) (by decide) (by decide) (by decide)).trans b4, hq⟩, zp_Y_tr a3 (f 151 (by decide) (by decide)) (f 152 (by decide) (by decide)) (f 153 (by decide) (by decide)) hJ, zt_TM_tr a4 (fy 4 (by decide) (by decide) (by decide) (by decide)) (f 150 (by decide) (by decide)), hN, ⟨?_, ?_, ?_, ?_, ?_⟩, m, l, (fy 44 (by decide) (by decide) (by decide) (by decide)).trans d1, (fy 37 (by decide) (by decide) (by decide) (by decide)).trans d2, d3, by omega, d5, by omega, fun q => zx_KM_tr (d7 (h0 q)) (fun a x1 x2 => f a (by omega) (by omega))⟩
  · have hz : y ≠ 11 ∧ y ≠ 14 ∧ y ≠ 15 ∧ y ≠ 16 := by unfold zx_fd at hy; omega
    rw [fy y hz.1 hz.2.1 hz.2.2.1 hz.2.2.2]
    exact f2 y hy
  · by_cases e : a = 156
    · subst e
      have x3 : zq_lv (!b) * 1 ≤ i := x3
      have x4 : i < (zq_lv (!b) + 1) * 1 := x4
      have ne : i ≠ zq_lv b := by
        cases b
        · have x3 : 1 * 1 ≤ i := x3
          show i ≠ 0
          omega
        · have x4 : i < (0 + 1) * 1 := x4
          show i ≠ 1
          omega
      rw [f156 i ne]
      exact f3 156 i x1 x2 x3 x4
    · rw [f a (by omega) e]; exact f3 a i x1 x2 x3 x4
  · rw [f 158 (by decide) (by decide)]; exact c1
  · rw [f 162 (by decide) (by decide)]; exact c2
  · rw [f 163 (by decide) (by decide)]; exact c3
  · rw [f 167 (by decide) (by decide)]; exact c4
  · rw [f 168 (by decide) (by decide)]; exact c5
theorem zx_NM_tr {b : Bool} {I I2 : zI} {J : zJ} {ts : List Nat} (h : zx_NM b I J ts) (e : I2 156 = I 156) : zx_NM b I2 J ts := by
  unfold zx_NM
  rw [e]
  exact h
/-- gone on, or a fault noted -/
theorem zx_M_T {b : Bool} {T : Nat → Nat} {n : Nat} {I0 I I2 : zI} {J : zJ} {t t2 : Nat} {σ : zx_S} (h : zx_M b T n I0 I J t σ) (hT : zm_T T n I I2 t2 (0, 0)) (ht : t ≤ t2) : zx_M b T n I0 I2 J t2 σ := by
  obtain ⟨k1, k2, k3, k4, k5⟩ := hT
  obtain ⟨-, ⟨b1, b2, b3, b4, b5, p, b6, b7, b8⟩, -, -, a5, -⟩ := id h
  have f13 : I2 148 13 = I 148 13 := k2.trans b1.symm
  refine zx_M_tr h (fun a x1 _ => k1 a x1) (fun y y1 y2 y3 y4 => ?_) (fun i _ => by rw [k1 156 (by decide)]) k4 ht ⟨(k5 15 (by decide) (by decide) (by decide)).trans b5, p, b6, (k5 16 (by decide) (by decide) (by decide)).trans b7, b8⟩ (zx_NM_tr a5 (k1 156 (by decide))) rfl (fun q => q)
  by_cases e : y = 13
  · rw [e]; exact f13
  · exact k5 y y1 e y2
theorem zx_MF_T {b : Bool} {T : Nat → Nat} {n : Nat} {I0 I I2 : zI} {J : zJ} {t t2 f e : Nat} {σ : zx_S} (h : zx_M b T n I0 I J t σ) (hT : zm_T T n I I2 t2 (f, e)) (hf : f = 1 ∨ f = 2) (ht : t2 ≤ 500) : zx_MF b T n I0 I2 f e := by
  obtain ⟨k1, k2, k3, k4, k5⟩ := hT
  obtain ⟨⟨f1, f2, f3⟩, ⟨b1, b2, b3, b4, -, p, b6, b7, -⟩, -⟩ := id h
  refine ⟨⟨fun a x1 x2 => by rw [k1 a x1]; exact f1 a x1 x2, fun y hy => ?_, fun a i x1 x2 x3 x4 => by rw [k1 a (by omega)]; exact f3 a i x1 x2 x3 x4⟩, hf, k2, k3 (by show f ≠ 0; omega), (k5 19 (by decide) (by decide) (by decide)).trans b4, t2, ht, k4, p, b6, (k5 16 (by decide) (by decide) (by decide)).trans b7⟩
  have hz : y ≠ 11 ∧ y ≠ 13 ∧ y ≠ 14 := by unfold zx_fd at hy; omega
  rw [k5 y hz.1 hz.2.1 hz.2.2]
  exact f2 y hy
theorem zx_T0 {b : Bool} {T : Nat → Nat} {n : Nat} {I0 I : zI} {J : zJ} {t : Nat} {σ : zx_S} (h : zx_M b T n I0 I J t σ) : zm_T T n I I t (0, 0) := ⟨fun _ _ => rfl, h.2.1.1, fun r => absurd rfl r, h.2.1.2.1, fun _ _ _ _ => rfl⟩
theorem zx_isM {sw b : Bool} {T : Nat → Nat} {n : Nat} {I0 I : zI} {J : zJ} {t kc : Nat} {kv : Int32} {σ : zx_S} (h : zx_M b T n I0 I J t σ) (ht : t ≤ 500) (hg : zt_go T n t) (hk : kc ≤ 35) (ekv : kv = nI (zt_mk kc)) : f_X11_is 148 kv I (zE_R sw) = some (zr_b (decide (zt_K T n t = kc))) := zp_is h.2.2.1 ht hg h.2.1.1 h.2.1.2.1 hk ekv
theorem zx_onM {sw b : Bool} {T : Nat → Nat} {n : Nat} {I0 I : zI} {J : zJ} {t : Nat} {σ : zx_S} (h : zx_M b T n I0 I J t σ) (ht : t ≤ 500) (hg : zt_go T n t) : (t < 500 ∧ ∃ I2, f_X11_goesOn 148 I (zE_R sw) = some I2 ∧ zx_M b T n I0 I2 J (t + 1) σ) ∨ (¬ t < 500 ∧ ∃ I2, f_X11_goesOn 148 I (zE_R sw) = some I2 ∧ zx_MF b T n I0 I2 2 t) := by
  by_cases c : t < 500
  · obtain ⟨I2, o1, o2⟩ := zm_T_on (sw := sw) (zx_T0 h) c
    exact Or.inl ⟨c, I2, o1, zx_M_T h o2 (by omega)⟩
  · obtain ⟨I2, o1, o2⟩ := zm_T_end (sw := sw) h.2.2.1 (zx_T0 h) (by omega) hg
    exact Or.inr ⟨c, I2, o1, zx_MF_T h o2 (Or.inr rfl) ht⟩
theorem zx_failM {sw b : Bool} {T : Nat → Nat} {n : Nat} {I0 I : zI} {J : zJ} {t f : Nat} {fv : Int32} {σ : zx_S} (h : zx_M b T n I0 I J t σ) (ht : t ≤ 500) (hg : zt_go T n t) (hf : f = 1 ∨ f = 2) (efv : fv = nI f) : ∃ I2, f_X11_fail 148 fv I (zE_R sw) = some I2 ∧ zx_MF b T n I0 I2 f t := by
  obtain ⟨I2, o1, o2⟩ := zm_T_fail (sw := sw) h.2.2.1 (zx_T0 h) ht hg f
  exact ⟨I2, by rw [efv]; exact o1, zx_MF_T h o2 hf ht⟩
theorem zx_mustM {sw b : Bool} {T : Nat → Nat} {n : Nat} {I0 I : zI} {J : zJ} {t kc : Nat} {kv : Int32} {σ : zx_S} (h : zx_M b T n I0 I J t σ) (ht : t ≤ 500) (hg : zt_go T n t) (hk : kc ≤ 35) (ekv : kv = nI (zt_mk kc)) : (zt_K T n t = kc ∧ t < 500 ∧ ∃ I2, f_X11_must 148 kv I (zE_R sw) = some I2 ∧ zx_M b T n I0 I2 J (t + 1) σ) ∨ (¬ (zt_K T n t = kc ∧ t < 500) ∧ ∃ I2, f_X11_must 148 kv I (zE_R sw) = some I2 ∧ zx_MF b T n I0 I2 (if zt_K T n t = kc then 2 else 1) t) := by
  obtain ⟨I2, m1, m2⟩ := zm_must (sw := sw) h.2.2.1 (zx_T0 h) ht hg hk ekv
  rcases m2 with ⟨c1, c2, c3⟩ | ⟨c1, c3⟩
  · exact Or.inl ⟨c1, c2, I2, m1, zx_M_T h c3 (by omega)⟩
  · refine Or.inr ⟨c1, I2, m1, zx_MF_T h c3 ?_ ht⟩
    by_cases c : zt_K T n t = kc
    · rw [if_pos c]; exact Or.inr rfl
    · rw [if_neg c]; exact Or.inl rfl
/-- the same behind a fault -/
theorem zx_MF.must {sw b : Bool} {T : Nat → Nat} {n : Nat} {I0 I : zI} {f e : Nat} (h : zx_MF b T n I0 I f e) (kv : Int32) : f_X11_must 148 kv I (zE_R sw) = some I := zm_mustF h.2.1 h.2.2.1
theorem zx_MF.fail {sw b : Bool} {T : Nat → Nat} {n : Nat} {I0 I : zI} {f e : Nat} (h : zx_MF b T n I0 I f e) (kv : Int32) : f_X11_fail 148 kv I (zE_R sw) = some I := zp_failF h.2.1 h.2.2.1 kv
theorem zx_MF.on {sw b : Bool} {T : Nat → Nat} {n : Nat} {I0 I : zI} {f e : Nat} (h : zx_MF b T n I0 I f e) : ∃ I2, f_X11_goesOn 148 I (zE_R sw) = some I2 ∧ zx_MF b T n I0 I2 f e := by
  obtain ⟨b1, b2, b3, b4, b5, t, b6, b7, p, b8, b9⟩ := id h
  by_cases c : t < 500
  · exact ⟨_, zp_on b7 c, b1.f _ (Or.inl rfl), b2, by rw [zE_u2 _ _ (by omega)]; exact b3, by rw [zE_u2 _ _ (by omega)]; exact b4, by rw [zE_u2 _ _ (by omega)]; exact b5, t + 1, by omega, zE_u1 _ _ _ _, p, b8, by rw [zE_u2 _ _ (by omega)]; exact b9⟩
  · have e : t = 500 := by omega
    rw [e] at b7
    exact ⟨I, zp_onE b7 (h.fail 2), h⟩
theorem zx_MF.named {sw b : Bool} {T : Nat → Nat} {n : Nat} {I0 I : zI} {J : zJ} {f e : Nat} (h : zx_MF b T n I0 I f e) : f_X11_named 148 I (zE_R sw) J = some (I, J) := by
  unfold f_X11_named
  rw [zp_g148.1, zw_g_t, zw_let_e, h.must 1, Option.bind_some, if_neg h.ne.2]
/-- a name's value in the model -/
theorem zx_vM {T : Nat → Nat} {n t : Nat} {I : zI} {J : zJ} (hY : zp_Y T n I J) (ht : t ≤ 500) (hg : zt_go T n t) (h : zt_K T n t = 2) : J 154 t = lN (zt_en 27 (zt_w T n (zt_a T n t))) := by
  obtain ⟨w1, w2, w3, w4, w5⟩ := zn_word h
  obtain ⟨-, -, -, y4⟩ := hY.2.2 t ht hg
  rw [y4, if_pos w1]
  unfold zt_mn zt_w
  rw [if_pos w2, if_pos w2, Nat.min_eq_right w3]
theorem zx_twM {T : Nat → Nat} {n t : Nat} {ts : List Nat} {I : zI} {J : zJ} (hY : zp_Y T n I J) (hts : ∀ u, u ∈ ts → u ≤ 500 ∧ zt_go T n u ∧ zt_K T n u = 2) (ht : t ≤ 500) (hg : zt_go T n t) (hk : zt_K T n t = 2) : (∃ u, u ∈ ts ∧ J 154 u = J 154 t) ↔ zx_tw T n ts t = true := by
  rw [zx_tw_iff]
  obtain ⟨-, -, -, w4, w5⟩ := zn_word hk
  have et := zx_vM hY ht hg hk
  constructor
  · rintro ⟨u, u1, u2⟩
    obtain ⟨p1, p2, p3⟩ := hts u u1
    obtain ⟨-, -, -, v4, v5⟩ := zn_word p3
    rw [et, zx_vM hY p1 p2 p3, pk_lEQ (zt_en63 v4 v5) (zt_en63 w4 w5)] at u2
    exact ⟨u, u1, zt_en_in (B := 27) (by decide) _ _ v4 w4 u2⟩
  · rintro ⟨u, u1, u2⟩
    obtain ⟨p1, p2, p3⟩ := hts u u1
    exact ⟨u, u1, by rw [et, zx_vM hY p1 p2 p3, u2]⟩
/-- a later fault is noted -/
theorem zx_wrongM {sw b : Bool} {T : Nat → Nat} {n : Nat} {I0 I : zI} {J : zJ} {t e f : Nat} {fv ev : Int32} {σ : zx_S} (h : zx_M b T n I0 I J t σ) (he : e ≤ 500) (hg : zt_go T n e) (hq : zx_qk T n t σ.2.2.2) (hw : σ.2.2.2.1 ≠ 0 → σ.2.2.2.2 < zt_a T n e ∨ (σ.2.2.2.2 = zt_a T n e ∧ σ.2.2.2.1 ≤ f)) (hf : f = 3 ∨ f = 5) (efv : fv = nI f) (eev : ev = nI e) : ∃ I2, f_X11_wrong 148 fv ev I (zE_R sw) = some I2 ∧ zx_M b T n I0 I2 J t (σ.1, σ.2.1, σ.2.2.1, zx_n σ.2.2.2 f (zt_a T n e)) ∧ ∀ a, a ≠ 148 → I2 a = I a := by
  subst efv eev
  obtain ⟨-, ⟨b1, b2, b3, b4, b5, p, b6, b7, b8⟩, a3, -, a5, -⟩ := id h
  have hp : zt_a T n e ≤ 2000 := Nat.le_trans (zt_a_le T n e) a3.1
  obtain ⟨I2, w1, d1, d2, d3, d4⟩ := zn_wrong (sw := sw) (I0 := I) (I := I) (q := (σ.2.2.2.1, p)) (f := f) a3 ⟨fun _ _ => rfl, b5, b7, fun _ _ _ => rfl⟩ b1 he hg (show σ.2.2.2.1 ≤ 9 from zx_q9 hq) b6 (by omega) hp
  have e1 : zn_w (σ.2.2.2.1, p) f (zt_a T n e) = zx_n (σ.2.2.2.1, p) f (zt_a T n e) := zx_n_w (fun c => by
    have e2 := b8 c
    subst e2
    exact hw c)
  rw [e1] at d2 d3
  have e1 : (zx_n (σ.2.2.2.1, p) f (zt_a T n e)).1 = (zx_n σ.2.2.2 f (zt_a T n e)).1 := by
    unfold zx_n
    by_cases c : σ.2.2.2.1 = 0
    · rw [if_pos c, if_pos c]
    · rw [if_neg c, if_neg c]
  rw [e1] at d2
  refine ⟨I2, w1, ?_, d1⟩
  refine zx_M_tr h (fun a x1 _ => d1 a x1) (fun y y1 y2 y3 y4 => d4 y y3 y4) (fun i _ => by rw [d1 156 (by decide)]) ((d4 11 (by decide) (by decide)).trans b2) (Nat.le_refl _) ⟨d2, (zx_n (σ.2.2.2.1, p) f (zt_a T n e)).2, ?_, d3, fun c => ?_⟩ (zx_NM_tr a5 (d1 156 (by decide))) rfl (fun q => absurd q (zx_n_0 (by omega)))
  · unfold zx_n
    split
    · exact hp
    · exact b6
  · unfold zx_n
    by_cases c0 : σ.2.2.2.1 = 0
    · rw [if_pos c0, if_pos c0]
    · rw [if_neg c0, if_neg c0]; exact b8 c0
/-- a name -/
theorem zx_namedM {sw b : Bool} {T : Nat → Nat} {n : Nat} {I0 I : zI} {J : zJ} {t : Nat} {σ : zx_S} (hts : ∀ u, u ∈ σ.2.2.1 → u ≤ 500 ∧ zt_go T n u ∧ zt_K T n u = 2) (hl : σ.2.2.1.length < 30) (hq : zx_qk T n t σ.2.2.2) (h : zx_M b T n I0 I J t σ) (ht : t ≤ 500) (hg : zt_go T n t) : (zt_K T n t = 2 ∧ t < 500 ∧ ∃ I2 J2, f_X11_named 148 I (zE_R sw) J = some (I2, J2) ∧ zx_M b T n I0 I2 J2 (t + 1) (σ.1, σ.2.1, t :: σ.2.2.1, zx_qn T n σ.2.2.1 σ.2.2.2 t) ∧ ∀ a, a ≠ 157 → J2 a = J a) ∨ (¬ (zt_K T n t = 2 ∧ t < 500) ∧ ∃ I2, f_X11_named 148 I (zE_R sw) J = some (I2, J) ∧ zx_MF b T n I0 I2 (if zt_K T n t = 2 then 2 else 1) t) := by
  have hl2 := zq_lv1 b
  obtain ⟨-, ⟨b1, b2, b3, b4, b5, p, b6, b7, b8⟩, a3, -, ⟨n1, n2⟩, -⟩ := id h
  have lc : (t :: σ.2.2.1).length = σ.2.2.1.length + 1 := List.length_cons
  have hp : zt_a T n t ≤ 2000 := Nat.le_trans (zt_a_le T n t) a3.1
  rcases zm_named (sw := sw) (q := (σ.2.2.2.1, p)) a3 b1 b2 ht hg hl2 b4 n1 hl b5 b7 (show σ.2.2.2.1 ≤ 9 from zx_q9 hq) b6 with ⟨I2, q2, c1, c2, c3, c4, c5, c6, c7, c8, c9⟩ | ⟨I2, c1, c3, c4⟩
  · refine Or.inl ⟨c1, c2, _, _, c3, ?_, fun a ha => zw_u_off _ _ _ ha⟩
    -- the later fault
    have key : ∃ p2, p2 ≤ 2000 ∧ q2 = ((zx_qn T n σ.2.2.1 σ.2.2.2 t).1, p2) ∧ ((zx_qn T n σ.2.2.1 σ.2.2.2 t).1 ≠ 0 → p2 = (zx_qn T n σ.2.2.1 σ.2.2.2 t).2) ∧ ((zx_qn T n σ.2.2.1 σ.2.2.2 t).1 = 0 → σ.2.2.2.1 = 0) := by
      unfold zx_qn
      rcases c9 with ⟨r1, r2⟩ | ⟨⟨i, r1, r3⟩, r2⟩
      · rw [if_neg (fun r => by
          obtain ⟨i, i1, i2⟩ := (n2 _).mpr ((zx_twM a3 hts ht hg c1).mpr r)
          exact r1 i i1 i2)]
        exact ⟨p, b6, r2, b8, fun q => q⟩
      · rw [if_pos ((zx_twM a3 hts ht hg c1).mp ((n2 _).mp ⟨i, r1, r3⟩))]
        have e1 : zn_w (σ.2.2.2.1, p) 3 (zt_a T n t) = zx_n (σ.2.2.2.1, p) 3 (zt_a T n t) := zx_n_w (fun c => by
          have e2 := b8 c
          obtain ⟨-, e, e3, e4⟩ := hq c
          have := zx_a_lt hg e3
          show p < zt_a T n t ∨ _
          left
          omega)
        rw [e1] at r2
        rw [r2]
        unfold zx_n
        by_cases c0 : σ.2.2.2.1 = 0
        · rw [if_pos c0, if_pos c0]
          exact ⟨zt_a T n t, hp, rfl, fun _ => rfl, fun q => absurd q (by decide : ¬ (3 : Nat) = 0)⟩
        · rw [if_neg c0, if_neg c0]
          exact ⟨p, b6, rfl, fun _ => b8 c0, fun q => q⟩
    obtain ⟨p2, k1, k2, k3, k4⟩ := key
    subst k2
    refine zx_M_tr h (fun a x1 x2 => by rw [zw_u_off _ _ _ x2]; exact c4 a x1) (fun y y1 y2 y3 y4 => by rw [zw_u_off _ _ _ (by decide)]; exact c8 y y1 y2 y3 y4) (fun i hi => by rw [zE_u2 _ _ (by omega), c4 156 (by decide)]) (by rw [zw_u_off _ _ _ (by decide)]; exact c5) (by omega) ⟨by rw [zw_u_off _ _ _ (by decide)]; exact c6, p2, k1, by rw [zw_u_off _ _ _ (by decide)]; exact c7, k3⟩ ⟨by rw [zE_u1, lc], fun v => ?_⟩ (zw_u_off _ _ _ (by decide)) k4
    rw [lc, zn_more (A := J 157) (A2 := zw_u J 157 (30 * zq_lv b + σ.2.2.1.length) (J 154 t) 157) (o := 30 * zq_lv b) (m := σ.2.2.1.length) (w := J 154 t) (zE_u1 _ _ _ _) (fun i hi => zE_u2 _ _ (by omega)) v, zw_u_off _ _ _ (show (154 : Nat) ≠ 157 by decide), zn_cons, n2]
  · refine Or.inr ⟨c1, I2, c3, zx_MF_T h c4 ?_ ht⟩
    by_cases c : zt_K T n t = 2
    · rw [if_pos c]; exact Or.inr rfl
    · rw [if_neg c]; exact Or.inl rfl
