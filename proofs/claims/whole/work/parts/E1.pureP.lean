/-! ===== between TELLS: what stays ===== -/
theorem zx_need_ok {α : Type} {K : Nat → Nat} {k t : Nat} {c : α ⊕ (Nat × Nat)} {P : α ⊕ (Nat × Nat) → Prop} (h1 : K t = k → t < 500 → P c) (h2 : ∀ f, f = 1 ∨ f = 2 → P (.inr (f, t))) : P (zx_need K k t c) := by
  unfold zx_need
  by_cases c1 : K t = k ∧ t < 500
  · rw [if_pos c1]; exact h1 c1.1 c1.2
  · rw [if_neg c1]
    refine h2 _ ?_
    by_cases c2 : K t = k
    · rw [if_pos c2]; exact Or.inr rfl
    · rw [if_neg c2]; exact Or.inl rfl
theorem zx_QKg {Q : zr_Q} {ls : List zr_L} (h : zr_QK Q) (h8 : Q.1 < 8) (hl : ∀ l, l ∈ ls → zr_ok l) (hf : ∀ x xs, ls = x :: xs → x.1 = true) : zr_QK (zx_qg Q ls) := by
  obtain ⟨a1, a2, a3⟩ := h
  refine ⟨h8, a2, fun k hk => ?_⟩
  have hk : k < Q.1 + 1 ∨ (8 ≤ k ∧ k < 8 + Q.2.1) := hk
  show (∀ l, l ∈ zx_up Q.2.2.2 Q.1 ls k → zr_ok l) ∧ (∀ x xs, zx_up Q.2.2.2 Q.1 ls k = x :: xs → x.1 = true) ∧ (8 ≤ k → zr_E (zx_up Q.2.2.1 Q.1 [] k))
  by_cases e : k = Q.1
  · subst e
    rw [zx_up1]
    exact ⟨hl, hf, fun r => by omega⟩
  · rw [zx_up2 _ _ e, zx_up2 _ _ e]
    exact a3 k (by unfold zr_has; omega)
theorem zx_QKp {Q : zr_Q} {e : List zr_C} {ls : List zr_L} (h : zr_QK Q) (h8 : Q.2.1 < 8) (he : zr_E e) (hl : ∀ l, l ∈ ls → zr_ok l) (hf : ∀ x xs, ls = x :: xs → x.1 = true) : zr_QK (zx_qp Q e ls) := by
  obtain ⟨a1, a2, a3⟩ := h
  refine ⟨a1, h8, fun k hk => ?_⟩
  have hk : k < Q.1 ∨ (8 ≤ k ∧ k < 8 + (Q.2.1 + 1)) := hk
  show (∀ l, l ∈ zx_up Q.2.2.2 (8 + Q.2.1) ls k → zr_ok l) ∧ (∀ x xs, zx_up Q.2.2.2 (8 + Q.2.1) ls k = x :: xs → x.1 = true) ∧ (8 ≤ k → zr_E (zx_up Q.2.2.1 (8 + Q.2.1) e k))
  by_cases e1 : k = 8 + Q.2.1
  · subst e1
    rw [zx_up1, zx_up1]
    exact ⟨hl, hf, fun _ => he⟩
  · rw [zx_up2 _ _ e1, zx_up2 _ _ e1]
    exact a3 k (by unfold zr_has; omega)
theorem zx_names {T : Nat → Nat} {n t : Nat} {ts : List Nat} (h : ∀ u, u ∈ ts → u ≤ 500 ∧ zt_go T n u ∧ zt_K T n u = 2) (h1 : t ≤ 500) (h2 : zt_go T n t) (h3 : zt_K T n t = 2) : ∀ u, u ∈ t :: ts → u ≤ 500 ∧ zt_go T n u ∧ zt_K T n u = 2 := by
  intro u hu
  rcases List.mem_cons.mp hu with e | e
  · rw [e]; exact ⟨h1, h2, h3⟩
  · exact h u e
theorem zx_grade_ok {T : Nat → Nat} {n t : Nat} {σ : zx_S} (hP : zx_P T n t σ) (hk : zt_K T n t = 21) : zx_ok T n t (zx_grade T n t σ) := by
  obtain ⟨p1, p2, p3, p4, p5, p6, p7, p8, p9, p10, p11⟩ := hP
  unfold zx_grade
  by_cases c : σ.2.1.1 < 8 ∧ t < 500
  · rw [if_pos c]
    have g1 : zt_go T n (t + 1) := zp_go p2 (by omega) (by omega)
    refine zx_need_ok (P := zx_ok T n t) (fun k1 t1 => ?_) (fun f hf => hf)
    have g2 : zt_go T n (t + 2) := zp_go g1 (by omega) (by omega)
    refine zx_need_ok (P := zx_ok T n t) (fun k2 t2 => ?_) (fun f hf => hf)
    have g3 : zt_go T n (t + 3) := zp_go g2 (by omega) (by omega)
    have co := zx_Cn_ok (T := T) (n := n) 502 (t + 3) true (by omega) g3
    cases hC : zp_Cn (zt_K T n) (zp_V T n) 502 (t + 3) true with
    | inr y => rw [hC] at co; exact co
    | inl x =>
      rw [hC] at co
      obtain ⟨o1, o2, o3, o4, r, rs, o5⟩ := co
      refine zx_need_ok (P := zx_ok T n t) (fun k3 t3 => ?_) (fun f hf => hf)
      refine ⟨by show t + 2 ≤ x.1 + 1; omega, by show x.1 + 1 ≤ 500; omega, zp_go o3 (by omega) (by omega), p3, p4, p5, c.1, p7, ?_, zx_names p9 (by omega) g1 k1, zx_qn_k p10 (by omega) (by omega), fun h0 => ?_⟩
      · show ((t + 1) :: σ.2.2.1).length = σ.1.ns + σ.1.nc + σ.1.nr + (σ.2.1.1 + 1) + σ.2.1.2.1
        rw [List.length_cons]; omega
      · have h0 : (zx_qn T n σ.2.2.1 σ.2.2.2 (t + 1)).1 = 0 := h0
        have e := zx_qn_0 h0
        rw [e] at h0
        obtain ⟨k1, k2⟩ := p11 h0
        exact ⟨k1, zx_QKg k2 c.1 o4 (fun z zs e2 => by rw [o5] at e2; cases e2; rfl)⟩
  · rw [if_neg c]; exact Or.inr rfl
theorem zx_cd_ok {T : Nat → Nat} {n t : Nat} (ht : t ≤ 500) (hg : zt_go T n t) : match zx_cd (zt_K T n) (zp_V T n) t with
    | .inl x => t ≤ x.1 ∧ x.1 ≤ 500 ∧ zt_go T n x.1 ∧ (∀ l, l ∈ x.2 → zr_ok l) ∧ (∀ z zs, x.2 = z :: zs → z.1 = true)
    | .inr y => y.1 = 1 ∨ y.1 = 2 := by
  unfold zx_cd
  by_cases c : zt_K T n t = 24
  · rw [if_pos c]
    by_cases c2 : t < 500
    · rw [if_pos c2]
      have co := zx_Cn_ok (T := T) (n := n) 502 (t + 1) true (by omega) (zp_go hg (by omega) (by omega))
      cases hC : zp_Cn (zt_K T n) (zp_V T n) 502 (t + 1) true with
      | inr y => rw [hC] at co; exact co
      | inl x =>
        rw [hC] at co
        obtain ⟨o1, o2, o3, o4, r, rs, o5⟩ := co
        exact ⟨by omega, o2, o3, o4, fun z zs e => by rw [o5] at e; cases e; rfl⟩
    · rw [if_neg c2]; exact Or.inr rfl
  · rw [if_neg c]
    exact ⟨Nat.le_refl _, ht, hg, fun l hl => absurd hl List.not_mem_nil, fun z zs e => by cases e⟩
theorem zx_price_ok {T : Nat → Nat} {n t : Nat} {σ : zx_S} (hP : zx_P T n t σ) (hk : zt_K T n t = 22) : zx_ok T n t (zx_price T n t σ) := by
  obtain ⟨p1, p2, p3, p4, p5, p6, p7, p8, p9, p10, p11⟩ := hP
  unfold zx_price
  by_cases c : σ.2.1.2.1 < 8 ∧ t < 500
  · rw [if_pos c]
    have g1 : zt_go T n (t + 1) := zp_go p2 (by omega) (by omega)
    refine zx_need_ok (P := zx_ok T n t) (fun k1 t1 => ?_) (fun f hf => hf)
    have g2 : zt_go T n (t + 2) := zp_go g1 (by omega) (by omega)
    have so := zp_S_ok (T := T) (n := n) (V := zp_V T n) 8 0 (t + 2) (by omega) g2
    cases hS : zp_S (zt_K T n) (zp_V T n) 8 0 (t + 2) with
    | inr y => rw [hS] at so; exact so.1
    | inl x =>
      rw [hS] at so
      obtain ⟨s1, s2, s3, s4⟩ := so
      have co := zx_cd_ok (T := T) (n := n) s2 s3
      dsimp only
      cases hC : zx_cd (zt_K T n) (zp_V T n) x.1 with
      | inr y => rw [hC] at co; exact co
      | inl z =>
        rw [hC] at co
        obtain ⟨o1, o2, o3, o4, o5⟩ := co
        refine zx_need_ok (P := zx_ok T n t) (fun k3 t3 => ?_) (fun f hf => hf)
        refine ⟨by show t + 2 ≤ z.1 + 1; omega, by show z.1 + 1 ≤ 500; omega, zp_go o3 (by omega) (by omega), p3, p4, p5, p6, c.1, ?_, zx_names p9 (by omega) g1 k1, zx_qn_k p10 (by omega) (by omega), fun h0 => ?_⟩
        · show ((t + 1) :: σ.2.2.1).length = σ.1.ns + σ.1.nc + σ.1.nr + σ.2.1.1 + (σ.2.1.2.1 + 1)
          rw [List.length_cons]; omega
        · have h0 : (zx_qn T n σ.2.2.1 σ.2.2.2 (t + 1)).1 = 0 := h0
          have e := zx_qn_0 h0
          rw [e] at h0
          obtain ⟨k1, k2⟩ := p11 h0
          exact ⟨k1, zx_QKp k2 c.1 (zp_S_E hS) o4 o5⟩
  · rw [if_neg c]; exact Or.inr rfl
/-- shares -/
theorem zx_from_b {f : Nat → Nat} {m v B : Nat} (h : ∀ c, f c ≤ B) (hv : v ≤ B) : ∀ c, zx_from f m v c ≤ B := by
  intro c
  unfold zx_from
  split
  · exact hv
  · exact h c
theorem zx_sh_ok {T : Nat → Nat} {n : Nat} : ∀ (f t m : Nat) (fl sl : Nat → Nat) (q : Nat × Nat), t ≤ 500 → zt_go T n t → zx_qk T n t q → match zx_sh T n f t m fl sl q with
    | .inl x => t + 2 ≤ x.1 ∧ x.1 ≤ 500 ∧ zt_go T n x.1 ∧ zx_qk T n x.1 x.2.2.2 ∧ (x.2.2.2.1 = 0 → q.1 = 0 ∧ ((∀ c, fl c ≤ 1000 ∧ sl c ≤ 1000) → ∀ c, x.2.1 c ≤ 1000 ∧ x.2.2.1 c ≤ 1000))
    | .inr y => y.1 = 1 ∨ y.1 = 2
  | 0, t, m, fl, sl, q, _, _, _ => Or.inl rfl
  | f + 1, t, m, fl, sl, q, ht, hg, hq => by
    unfold zx_sh
    by_cases c1 : zt_K T n t = 3
    · rw [if_pos c1]
      by_cases c2 : m < 4 ∧ t < 500
      · rw [if_pos c2]
        have g1 : zt_go T n (t + 1) := zp_go hg (by omega) (by omega)
        refine zx_need_ok (P := fun ω : zx_OS => match ω with
          | .inl x => t + 2 ≤ x.1 ∧ x.1 ≤ 500 ∧ zt_go T n x.1 ∧ zx_qk T n x.1 x.2.2.2 ∧ (x.2.2.2.1 = 0 → q.1 = 0 ∧ ((∀ c, fl c ≤ 1000 ∧ sl c ≤ 1000) → ∀ c, x.2.1 c ≤ 1000 ∧ x.2.2.1 c ≤ 1000))
          | .inr y => y.1 = 1 ∨ y.1 = 2) (fun k1 t1 => ?_) (fun f hf => hf)
        have g2 : zt_go T n (t + 2) := zp_go g1 (by omega) (by omega)
        have q2 : zx_qk T n (t + 2) (zx_qs T n (zx_qs T n q t) (t + 1)) := zx_qs_k (t := t + 1) (zx_qs_k hq (by omega) (by omega)) (by omega) (by omega)
        have z0 : (zx_qs T n (zx_qs T n q t) (t + 1)).1 = 0 → q.1 = 0 ∧ zp_V T n t ≤ 1000 ∧ zp_V T n (t + 1) ≤ 1000 := by
          intro h0
          obtain ⟨e1, e2⟩ := zx_qs_0 h0
          rw [e1] at h0
          obtain ⟨e3, e4⟩ := zx_qs_0 h0
          rw [e3] at h0
          exact ⟨h0, e4, e2⟩
        by_cases c3 : zt_K T n (t + 2) = 7
        · rw [if_pos c3]
          by_cases c4 : t + 2 < 500
          · rw [if_pos c4]
            have ih := zx_sh_ok (T := T) (n := n) f (t + 3) (m + 1) (zx_from fl m (zp_V T n t)) (zx_from sl m (zp_V T n (t + 1))) _ (by omega) (zp_go g2 (by omega) (by omega)) (zx_qk_up q2 (show t + 2 ≤ t + 3 by omega))
            cases hS : zx_sh T n f (t + 3) (m + 1) (zx_from fl m (zp_V T n t)) (zx_from sl m (zp_V T n (t + 1))) (zx_qs T n (zx_qs T n q t) (t + 1)) with
            | inr y => rw [hS] at ih; exact ih
            | inl x =>
              rw [hS] at ih
              obtain ⟨i1, i2, i3, i4, i5⟩ := ih
              refine ⟨by omega, i2, i3, i4, fun h0 => ?_⟩
              obtain ⟨j1, j2⟩ := i5 h0
              obtain ⟨k1, k2, k3⟩ := z0 j1
              exact ⟨k1, fun hb => j2 (fun c => ⟨zx_from_b (fun c => (hb c).1) k2 c, zx_from_b (fun c => (hb c).2) k3 c⟩)⟩
          · rw [if_neg c4]; exact Or.inr rfl
        · rw [if_neg c3]
          refine ⟨Nat.le_refl _, by show t + 2 ≤ 500; omega, g2, q2, fun h0 => ?_⟩
          obtain ⟨k1, k2, k3⟩ := z0 h0
          exact ⟨k1, fun hb c => ⟨zx_from_b (fun c => (hb c).1) k2 c, zx_from_b (fun c => (hb c).2) k3 c⟩⟩
      · rw [if_neg c2]; exact Or.inr rfl
    · rw [if_neg c1]; exact Or.inl rfl
theorem zx_ea_ok {T : Nat → Nat} {n t : Nat} {q : Nat × Nat} (ht : t ≤ 500) (hg : zt_go T n t) (hq : zx_qk T n t q) : match zx_ea T n t q with
    | .inl z => t ≤ z.1 ∧ z.1 ≤ 500 ∧ zt_go T n z.1 ∧ zx_qk T n z.1 z.2.2 ∧ (z.2.2.1 = 0 → q.1 = 0 ∧ z.2.1 ≤ 1000)
    | .inr y => y.1 = 1 ∨ y.1 = 2 := by
  unfold zx_ea
  by_cases c : zt_K T n t = 23
  · rw [if_pos c]
    by_cases c2 : t < 500
    · rw [if_pos c2]
      have g1 : zt_go T n (t + 1) := zp_go hg (by omega) (by omega)
      refine zx_need_ok (P := fun ω : (Nat × Nat × (Nat × Nat)) ⊕ (Nat × Nat) => match ω with
        | .inl z => t ≤ z.1 ∧ z.1 ≤ 500 ∧ zt_go T n z.1 ∧ zx_qk T n z.1 z.2.2 ∧ (z.2.2.1 = 0 → q.1 = 0 ∧ z.2.1 ≤ 1000)
        | .inr y => y.1 = 1 ∨ y.1 = 2) (fun k1 t1 => ?_) (fun f hf => hf)
      refine ⟨by show t ≤ t + 2; omega, by show t + 2 ≤ 500; omega, zp_go g1 (by omega) (by omega), zx_qs_k hq (by omega) (by omega), fun h0 => ?_⟩
      have h0 : (zx_qs T n q (t + 1)).1 = 0 := h0
      obtain ⟨e1, e2⟩ := zx_qs_0 h0
      rw [e1] at h0
      exact ⟨h0, e2⟩
    · rw [if_neg c2]; exact Or.inr rfl
  · rw [if_neg c]
    exact ⟨Nat.le_refl _, ht, hg, hq, fun h0 => ⟨h0, by show 200 ≤ 1000; decide⟩⟩
theorem zx_HKs {H : zq_H} {fl sl : Nat → Nat} {e : Nat} (h : zq_HK H) (h4 : H.ns < 4) (hb : ∀ c, fl c ≤ 1000 ∧ sl c ≤ 1000) (he : e ≤ 1000) : zq_HK (zx_hs H fl sl e) := by
  obtain ⟨a1, a2, a3, a4, a5⟩ := h
  refine ⟨h4, a2, a3, fun k c => ?_, fun k hk => a5 k hk⟩
  show zx_up H.fl H.ns fl k c ≤ 1000 ∧ zx_up H.sl H.ns sl k c ≤ 1000 ∧ zx_up H.ea H.ns e k ≤ 1000
  by_cases e1 : k = H.ns
  · rw [e1, zx_up1, zx_up1, zx_up1]
    exact ⟨(hb c).1, (hb c).2, he⟩
  · rw [zx_up2 _ _ e1, zx_up2 _ _ e1, zx_up2 _ _ e1]
    exact a4 k c
theorem zx_stuff_ok {T : Nat → Nat} {n t : Nat} {σ : zx_S} (hP : zx_P T n t σ) : zx_ok T n t (zx_stuff T n t σ) := by
  obtain ⟨p1, p2, p3, p4, p5, p6, p7, p8, p9, p10, p11⟩ := hP
  unfold zx_stuff
  by_cases hk : zt_K T n t = 18
  · rw [if_pos hk]
    by_cases c : σ.1.ns < 4 ∧ t < 500
    · rw [if_pos c]
      have g1 : zt_go T n (t + 1) := zp_go p2 (by omega) (by omega)
      refine zx_need_ok (P := zx_ok T n t) (fun k1 t1 => ?_) (fun f hf => hf)
      have g2 : zt_go T n (t + 2) := zp_go g1 (by omega) (by omega)
      refine zx_need_ok (P := zx_ok T n t) (fun k2 t2 => ?_) (fun f hf => hf)
      have g3 : zt_go T n (t + 3) := zp_go g2 (by omega) (by omega)
      have so := zx_sh_ok (T := T) (n := n) 5 (t + 3) 0 (fun _ => 0) (fun _ => 0) (zx_qn T n σ.2.2.1 σ.2.2.2 (t + 1)) (by omega) g3 (zx_qn_k p10 (by omega) (by omega))
      cases hS : zx_sh T n 5 (t + 3) 0 (fun _ => 0) (fun _ => 0) (zx_qn T n σ.2.2.1 σ.2.2.2 (t + 1)) with
      | inr y => rw [hS] at so; exact so
      | inl x =>
        rw [hS] at so
        obtain ⟨s1, s2, s3, s4, s5⟩ := so
        have eo := zx_ea_ok (T := T) (n := n) s2 s3 s4
        dsimp only
        cases hE : zx_ea T n x.1 x.2.2.2 with
        | inr y => rw [hE] at eo; exact eo
        | inl z =>
          rw [hE] at eo
          obtain ⟨e1, e2, e3, e4, e5⟩ := eo
          refine zx_need_ok (P := zx_ok T n t) (fun k3 t3 => ?_) (fun f hf => hf)
          refine ⟨by show t + 2 ≤ z.1 + 1; omega, by show z.1 + 1 ≤ 500; omega, zp_go e3 (by omega) (by omega), c.1, p4, p5, p6, p7, ?_, zx_names p9 (by omega) g1 k1, zx_qk_up e4 (by show z.1 ≤ z.1 + 1; omega), fun h0 => ?_⟩
          · show ((t + 1) :: σ.2.2.1).length = (σ.1.ns + 1) + σ.1.nc + σ.1.nr + σ.2.1.1 + σ.2.1.2.1
            rw [List.length_cons]; omega
          · obtain ⟨y1, y2⟩ := e5 h0
            obtain ⟨y3, y4⟩ := s5 y1
            have e := zx_qn_0 y3
            rw [e] at y3
            obtain ⟨k1, k2⟩ := p11 y3
            exact ⟨zx_HKs k1 c.1 (y4 (fun _ => ⟨Nat.zero_le _, Nat.zero_le _⟩)) y2, k2⟩
    · rw [if_neg c]; exact Or.inr rfl
  · rw [if_neg hk]; exact Or.inl rfl
/-- a ROW -/
theorem zx_K4 {T : Nat → Nat} {n t : Nat} (h : zt_K T n t = 4) : zt_a T n t < n ∧ zt_L (T (zt_a T n t)) = false ∧ 1 ≤ zp_V T n t ∧ zp_V T n t ≤ 12 ∧ ∀ x, x < zp_V T n t → zt_a T n t + 1 + x < n ∧ zt_C (T (zt_a T n t + 1 + x)) = true := by
  unfold zt_K at h
  by_cases c : zt_a T n t < n
  · rw [if_pos c] at h
    unfold zp_V
    rw [if_pos c]
    obtain ⟨a, ea⟩ : ∃ a, a = zt_a T n t := ⟨_, rfl⟩
    rw [← ea] at h c ⊢
    unfold zt_k at h
    by_cases c1 : zt_L (T a) = true
    · rw [if_pos c1] at h
      by_cases c2 : zt_e T n a - a ≤ 8
      · rw [if_pos c2] at h
        rcases zt_wk_v (zt_w T n a) 18 0 with q | q
        · have h : zt_kf (zt_w T n a) 18 0 = 4 := h
          omega
        · have h : zt_kf (zt_w T n a) 18 0 = 4 := h
          omega
      · rw [if_neg c2] at h; exact absurd h (by decide)
    · rw [if_neg c1] at h
      by_cases d1 : zt_D (T a) = true
      · rw [if_pos d1] at h
        split at h <;> exact absurd h (by decide)
      · rw [if_neg d1] at h
        by_cases d2 : T a = 39
        · rw [if_pos d2] at h
          have ee : zt_e T n a = zt_r zt_C T n (a + 1) := by
            unfold zt_e
            rw [if_neg c1, if_neg d1, if_pos d2]
          have ev : zt_v T n a = zt_e T n a - a - 1 := by
            unfold zt_v
            rw [if_neg c1, if_neg d1, if_pos d2]
          by_cases d3 : 1 ≤ zt_e T n a - a - 1 ∧ zt_e T n a - a - 1 ≤ 12
          · rw [ev]
            refine ⟨c, by cases hh : zt_L (T a) with | true => exact absurd hh c1 | false => rfl, d3.1, d3.2, fun x hx => ?_⟩
            rw [ee] at hx
            have h1 := zt_r_le (P := zt_C) (T := T) (n := n) (a := a + 1) (by omega)
            exact ⟨by omega, zt_r_in (P := zt_C) (n := n) (a := a + 1) (by omega) (by omega)⟩
          · rw [if_neg d3] at h; exact absurd h (by decide)
        · rw [if_neg d2] at h
          by_cases d3 : a + 1 < n ∧ T (a + 1) = 61 ∧ (T a = 60 ∨ T a = 61 ∨ T a = 33)
          · rw [if_pos d3] at h
            split at h
            · exact absurd h (by decide)
            · split at h <;> exact absurd h (by decide)
          · rw [if_neg d3] at h
            unfold zt_sg at h
            repeat' split at h
            all_goals exact absurd h (by decide)
  · rw [if_neg c] at h
    exact absurd h (by decide)
theorem zx_cn6 (c : Nat) : zt_cn c ≤ 6 := by
  unfold zt_cn
  split
  · omega
  · split
    · omega
    · split <;> omega
theorem zx_row_ok {T : Nat → Nat} {n t : Nat} {d : zq_D} (hk : zt_K T n t = 4) (ht : d.t < 12) (hd : d.t = 0 ∨ zq_ok d) (h6 : ∀ x y, d.c x y ≤ 6) : zq_ok (zx_row T n t d) := by
  obtain ⟨-, -, v1, v2, -⟩ := zx_K4 hk
  have hw : 1 ≤ (if d.t = 0 then zp_V T n t else d.w) ∧ (if d.t = 0 then zp_V T n t else d.w) ≤ 12 := by
    split
    · exact ⟨v1, v2⟩
    · rcases hd with hd | hd
      · contradiction
      · exact ⟨hd.1, hd.2.1⟩
  refine ⟨hw.1, hw.2, by show 1 ≤ d.t + 1; omega, by show d.t + 1 ≤ 12; omega, fun x y => ?_⟩
  show (if y = d.t then (if x < zp_V T n t then zt_cn (T (zt_a T n t + 1 + x)) else 0) else d.c x y) ≤ 6
  split
  · split
    · exact zx_cn6 _
    · omega
  · exact h6 x y
theorem zx_rw_ok {T : Nat → Nat} {n : Nat} : ∀ (f t : Nat) (d : zq_D) (q : Nat × Nat), t ≤ 500 → zt_go T n t → zt_K T n t = 4 → zx_qk T n t q → (d.t = 0 ∨ zq_ok d) → (∀ x y, d.c x y ≤ 6) → match zx_rw T n f t d q with
    | .inl x => t + 1 ≤ x.1 ∧ x.1 ≤ 500 ∧ zt_go T n x.1 ∧ zx_qk T n x.1 x.2.2 ∧ zq_ok x.2.1 ∧ (x.2.2.1 = 0 → q.1 = 0)
    | .inr y => y.1 = 1 ∨ y.1 = 2
  | 0, t, d, q, _, _, _, _, _, _ => Or.inr rfl
  | f + 1, t, d, q, ht, hg, hk, hq, hd, h6 => by
    unfold zx_rw
    by_cases c : d.t < 12 ∧ t < 500
    · rw [if_pos c]
      have g1 : zt_go T n (t + 1) := zp_go hg (by omega) (by omega)
      have ok := zx_row_ok (n := n) hk c.1 hd h6
      have q1 : zx_qk T n (t + 1) (zx_qr T n t d q) := zx_qr_k hq (by omega) (by omega)
      by_cases c2 : zt_K T n (t + 1) = 4
      · rw [if_pos c2]
        have ih := zx_rw_ok (T := T) (n := n) f (t + 1) (zx_row T n t d) (zx_qr T n t d q) (by omega) g1 c2 q1 (Or.inr ok) ok.2.2.2.2
        cases hR : zx_rw T n f (t + 1) (zx_row T n t d) (zx_qr T n t d q) with
        | inr y => rw [hR] at ih; exact ih
        | inl x =>
          rw [hR] at ih
          obtain ⟨i1, i2, i3, i4, i5, i6⟩ := ih
          refine ⟨by omega, i2, i3, i4, i5, fun h0 => ?_⟩
          have := i6 h0
          have e := (zx_qr_0 this).1
          rw [e] at this
          exact this
      · rw [if_neg c2]
        refine ⟨Nat.le_refl _, by show t + 1 ≤ 500; omega, g1, q1, ok, fun h0 => ?_⟩
        have h0 : (zx_qr T n t d q).1 = 0 := h0
        have e := (zx_qr_0 h0).1
        rw [e] at h0
        exact h0
    · rw [if_neg c]; exact Or.inr rfl
theorem zx_draw_ok {T : Nat → Nat} {n t : Nat} {ts : List Nat} {q : Nat × Nat} (ht : t < 500) (hg : zt_go T n (t + 1)) (hq : zx_qk T n t q) : match zx_draw T n t ts q with
    | .inl x => t + 2 ≤ x.1 ∧ x.1 ≤ 500 ∧ zt_go T n x.1 ∧ zx_qk T n x.1 x.2.2 ∧ zt_K T n (t + 1) = 2 ∧ zq_ok x.2.1 ∧ (x.2.2.1 = 0 → q.1 = 0)
    | .inr y => y.1 = 1 ∨ y.1 = 2 := by
  unfold zx_draw
  refine zx_need_ok (P := fun ω : zx_OD => match ω with
    | .inl x => t + 2 ≤ x.1 ∧ x.1 ≤ 500 ∧ zt_go T n x.1 ∧ zx_qk T n x.1 x.2.2 ∧ zt_K T n (t + 1) = 2 ∧ zq_ok x.2.1 ∧ (x.2.2.1 = 0 → q.1 = 0)
    | .inr y => y.1 = 1 ∨ y.1 = 2) (fun k1 t1 => ?_) (fun f hf => hf)
  have g2 : zt_go T n (t + 2) := zp_go hg (by omega) (by omega)
  by_cases c : zt_K T n (t + 2) = 4
  · rw [if_pos c]
    have ro := zx_rw_ok (T := T) (n := n) 13 (t + 2) zx_d0 (zx_qn T n ts q (t + 1)) (by omega) g2 c (zx_qn_k hq (by omega) (by omega)) (Or.inl rfl) (fun _ _ => Nat.zero_le _)
    cases hR : zx_rw T n 13 (t + 2) zx_d0 (zx_qn T n ts q (t + 1)) with
    | inr y => rw [hR] at ro; exact ro
    | inl x =>
      rw [hR] at ro
      obtain ⟨o1, o2, o3, o4, o5, o6⟩ := ro
      refine zx_need_ok (P := fun ω : zx_OD => match ω with
        | .inl x => t + 2 ≤ x.1 ∧ x.1 ≤ 500 ∧ zt_go T n x.1 ∧ zx_qk T n x.1 x.2.2 ∧ zt_K T n (t + 1) = 2 ∧ zq_ok x.2.1 ∧ (x.2.2.1 = 0 → q.1 = 0)
        | .inr y => y.1 = 1 ∨ y.1 = 2) (fun k3 t3 => ?_) (fun f hf => hf)
      refine ⟨by show t + 2 ≤ x.1 + 1; omega, by show x.1 + 1 ≤ 500; omega, zp_go o3 (by omega) (by omega), zx_q0_k o4 (by show x.1 - 1 < x.1 + 1; omega) (by show x.1 ≤ x.1 + 1; omega), k1, o5, fun h0 => ?_⟩
      have h0 : (zx_q0 T n (x.1 - 1) x.2.1 x.2.2).1 = 0 := h0
      have e := (zx_q0_0 h0).1
      rw [e] at h0
      have h1 := o6 h0
      have e := zx_qn_0 h1
      rw [e] at h1
      exact h1
  · rw [if_neg c]; exact Or.inl rfl
theorem zx_cut_ok {T : Nat → Nat} {n t : Nat} {σ : zx_S} (hP : zx_P T n t σ) (hk : zt_K T n t = 19) : zx_ok T n t (zx_cut T n t σ) := by
  obtain ⟨p1, p2, p3, p4, p5, p6, p7, p8, p9, p10, p11⟩ := hP
  unfold zx_cut
  by_cases c : σ.1.nc < 6 ∧ t < 500
  · rw [if_pos c]
    have g1 : zt_go T n (t + 1) := zp_go p2 (by omega) (by omega)
    have dr := zx_draw_ok (T := T) (n := n) (ts := σ.2.2.1) c.2 g1 p10
    cases hD : zx_draw T n t σ.2.2.1 σ.2.2.2 with
    | inr y => rw [hD] at dr; exact dr
    | inl x =>
      rw [hD] at dr
      obtain ⟨d1, d2, d3, d4, d5, d6, d7⟩ := dr
      refine ⟨d1, d2, d3, p3, c.1, p5, p6, p7, ?_, zx_names p9 (by omega) g1 d5, d4, fun h0 => ?_⟩
      · show ((t + 1) :: σ.2.2.1).length = σ.1.ns + (σ.1.nc + 1) + σ.1.nr + σ.2.1.1 + σ.2.1.2.1
        rw [List.length_cons]; omega
      · obtain ⟨⟨a1, a2, a3, a4, a5⟩, k2⟩ := p11 (d7 h0)
        refine ⟨⟨a1, c.1, a3, a4, fun k hk => ?_⟩, k2⟩
        have hk : k < σ.1.nc + 1 ∨ (6 ≤ k ∧ k < 6 + σ.1.nr) := hk
        show zq_ok (zx_up σ.1.D σ.1.nc x.2.1 k)
        by_cases e : k = σ.1.nc
        · rw [e, zx_up1]; exact d6
        · rw [zx_up2 _ _ e]; exact a5 k (by unfold zq_H.has; omega)
  · rw [if_neg c]; exact Or.inr rfl
theorem zx_rough_ok {T : Nat → Nat} {n t : Nat} {σ : zx_S} (hP : zx_P T n t σ) (hk : zt_K T n t = 20) : zx_ok T n t (zx_rough T n t σ) := by
  obtain ⟨p1, p2, p3, p4, p5, p6, p7, p8, p9, p10, p11⟩ := hP
  unfold zx_rough
  by_cases c : σ.1.nr < 4 ∧ t < 500
  · rw [if_pos c]
    have g1 : zt_go T n (t + 1) := zp_go p2 (by omega) (by omega)
    have dr := zx_draw_ok (T := T) (n := n) (ts := σ.2.2.1) c.2 g1 p10
    cases hD : zx_draw T n t σ.2.2.1 σ.2.2.2 with
    | inr y => rw [hD] at dr; exact dr
    | inl x =>
      rw [hD] at dr
      obtain ⟨d1, d2, d3, d4, d5, d6, d7⟩ := dr
      refine ⟨d1, d2, d3, p3, p4, c.1, p6, p7, ?_, zx_names p9 (by omega) g1 d5, d4, fun h0 => ?_⟩
      · show ((t + 1) :: σ.2.2.1).length = σ.1.ns + σ.1.nc + (σ.1.nr + 1) + σ.2.1.1 + σ.2.1.2.1
        rw [List.length_cons]; omega
      · obtain ⟨⟨a1, a2, a3, a4, a5⟩, k2⟩ := p11 (d7 h0)
        refine ⟨⟨a1, a2, c.1, a4, fun k hk => ?_⟩, k2⟩
        have hk : k < σ.1.nc ∨ (6 ≤ k ∧ k < 6 + (σ.1.nr + 1)) := hk
        show zq_ok (zx_up σ.1.D (6 + σ.1.nr) x.2.1 k)
        by_cases e : k = 6 + σ.1.nr
        · rw [e, zx_up1]; exact d6
        · rw [zx_up2 _ _ e]; exact a5 k (by unfold zq_H.has; omega)
  · rw [if_neg c]; exact Or.inr rfl
theorem zx_tell_ok {T : Nat → Nat} {n t : Nat} {σ : zx_S} (hP : zx_P T n t σ) : zx_ok T n t (zx_tell T n t σ) := by
  unfold zx_tell
  by_cases c1 : zt_K T n t = 19
  · rw [if_pos c1]; exact zx_cut_ok hP c1
  · rw [if_neg c1]
    by_cases c2 : zt_K T n t = 20
    · rw [if_pos c2]; exact zx_rough_ok hP c2
    · rw [if_neg c2]
      by_cases c3 : zt_K T n t = 21
      · rw [if_pos c3]; exact zx_grade_ok hP c3
      · rw [if_neg c3]
        by_cases c4 : zt_K T n t = 22
        · rw [if_pos c4]; exact zx_price_ok hP c4
        · rw [if_neg c4]; exact zx_stuff_ok hP
