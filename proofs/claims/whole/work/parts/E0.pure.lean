/-! ===== a text, pure: what its TELLS are ===== -/
/-- a later fault: the first that is noted stays -/
def zx_n (q : Nat × Nat) (f p : Nat) : Nat × Nat := if q.1 = 0 then (f, p) else q
/-- is the name at token t among those at ts? -/
def zx_tw (T : Nat → Nat) (n : Nat) (ts : List Nat) (t : Nat) : Bool := ts.any (fun u => decide (zt_w T n (zt_a T n u) = zt_w T n (zt_a T n t)))
def zx_qn (T : Nat → Nat) (n : Nat) (ts : List Nat) (q : Nat × Nat) (t : Nat) : Nat × Nat := if zx_tw T n ts t = true then zx_n q 3 (zt_a T n t) else q
/-- a house's stuffs and drawings, its rules, the tokens of the names, the later fault -/
abbrev zx_S : Type := zq_H × zr_Q × List Nat × (Nat × Nat)
abbrev zx_O : Type := (Nat × zx_S) ⊕ (Nat × Nat)
def zx_need {α : Type} (K : Nat → Nat) (k t : Nat) (c : α ⊕ (Nat × Nat)) : α ⊕ (Nat × Nat) := if K t = k ∧ t < 500 then c else .inr (if K t = k then 2 else 1, t)
def zx_up {α : Type} (f : Nat → α) (k : Nat) (v : α) : Nat → α := fun i => if i = k then v else f i
theorem zx_up1 {α : Type} (f : Nat → α) (k : Nat) (v : α) : zx_up f k v k = v := if_pos rfl
theorem zx_up2 {α : Type} (f : Nat → α) {k i : Nat} (v : α) (h : i ≠ k) : zx_up f k v i = f i := if_neg h
/-- rules -/
def zx_qg (Q : zr_Q) (ls : List zr_L) : zr_Q := (Q.1 + 1, Q.2.1, zx_up Q.2.2.1 Q.1 [], zx_up Q.2.2.2 Q.1 ls)
def zx_qp (Q : zr_Q) (e : List zr_C) (ls : List zr_L) : zr_Q := (Q.1, Q.2.1 + 1, zx_up Q.2.2.1 (8 + Q.2.1) e, zx_up Q.2.2.2 (8 + Q.2.1) ls)
def zx_cd (K V : Nat → Nat) (t : Nat) : zp_OC := if K t = 24 then (if t < 500 then zp_Cn K V 502 (t + 1) true else .inr (2, t)) else .inl (t, [])
def zx_grade (T : Nat → Nat) (n t : Nat) (σ : zx_S) : zx_O :=
  if σ.2.1.1 < 8 ∧ t < 500 then zx_need (zt_K T n) 2 (t + 1) (zx_need (zt_K T n) 24 (t + 2) (match zp_Cn (zt_K T n) (zp_V T n) 502 (t + 3) true with
    | .inr y => .inr y
    | .inl x => zx_need (zt_K T n) 5 x.1 (.inl (x.1 + 1, (σ.1, zx_qg σ.2.1 x.2, (t + 1) :: σ.2.2.1, zx_qn T n σ.2.2.1 σ.2.2.2 (t + 1))))))
  else .inr (2, t)
def zx_price (T : Nat → Nat) (n t : Nat) (σ : zx_S) : zx_O :=
  if σ.2.1.2.1 < 8 ∧ t < 500 then zx_need (zt_K T n) 2 (t + 1) (match zp_S (zt_K T n) (zp_V T n) 8 0 (t + 2) with
    | .inr y => .inr y
    | .inl x => match zx_cd (zt_K T n) (zp_V T n) x.1 with
      | .inr y => .inr y
      | .inl z => zx_need (zt_K T n) 5 z.1 (.inl (z.1 + 1, (σ.1, zx_qp σ.2.1 x.2 z.2, (t + 1) :: σ.2.2.1, zx_qn T n σ.2.2.1 σ.2.2.2 (t + 1)))))
  else .inr (2, t)
/-- stuffs -/
def zx_qs (T : Nat → Nat) (n : Nat) (q : Nat × Nat) (t : Nat) : Nat × Nat := if 1000 < zp_V T n t then zx_n q 5 (zt_a T n t) else q
def zx_from (f : Nat → Nat) (m v : Nat) : Nat → Nat := fun c => if m ≤ c then v else f c
abbrev zx_OS : Type := (Nat × (Nat → Nat) × (Nat → Nat) × (Nat × Nat)) ⊕ (Nat × Nat)
def zx_sh (T : Nat → Nat) (n : Nat) : Nat → Nat → Nat → (Nat → Nat) → (Nat → Nat) → Nat × Nat → zx_OS
  | 0, t, _, _, _, _ => .inr (1, t)
  | f + 1, t, m, fl, sl, q => if zt_K T n t = 3 then (if m < 4 ∧ t < 500 then zx_need (zt_K T n) 3 (t + 1) (if zt_K T n (t + 2) = 7 then (if t + 2 < 500 then zx_sh T n f (t + 3) (m + 1) (zx_from fl m (zp_V T n t)) (zx_from sl m (zp_V T n (t + 1))) (zx_qs T n (zx_qs T n q t) (t + 1)) else .inr (2, t + 2)) else .inl (t + 2, zx_from fl m (zp_V T n t), zx_from sl m (zp_V T n (t + 1)), zx_qs T n (zx_qs T n q t) (t + 1))) else .inr (2, t)) else .inr (1, t)
def zx_ea (T : Nat → Nat) (n t : Nat) (q : Nat × Nat) : (Nat × Nat × (Nat × Nat)) ⊕ (Nat × Nat) := if zt_K T n t = 23 then (if t < 500 then zx_need (zt_K T n) 3 (t + 1) (.inl (t + 2, zp_V T n (t + 1), zx_qs T n q (t + 1))) else .inr (2, t)) else .inl (t, 200, q)
def zx_hs (H : zq_H) (fl sl : Nat → Nat) (e : Nat) : zq_H := ((H.ns + 1, H.nc, H.nr, zx_up H.fl H.ns fl, zx_up H.sl H.ns sl, zx_up H.ea H.ns e, H.D) : Nat × Nat × Nat × (Nat → Nat → Nat) × (Nat → Nat → Nat) × (Nat → Nat) × (Nat → zq_D))
def zx_stuff (T : Nat → Nat) (n t : Nat) (σ : zx_S) : zx_O :=
  if zt_K T n t = 18 then (if σ.1.ns < 4 ∧ t < 500 then zx_need (zt_K T n) 2 (t + 1) (zx_need (zt_K T n) 6 (t + 2) (match zx_sh T n 5 (t + 3) 0 (fun _ => 0) (fun _ => 0) (zx_qn T n σ.2.2.1 σ.2.2.2 (t + 1)) with
    | .inr y => .inr y
    | .inl x => match zx_ea T n x.1 x.2.2.2 with
      | .inr y => .inr y
      | .inl z => zx_need (zt_K T n) 5 z.1 (.inl (z.1 + 1, (zx_hs σ.1 x.2.1 x.2.2.1 z.2.1, σ.2.1, (t + 1) :: σ.2.2.1, z.2.2)))))
  else .inr (2, t)) else .inr (1, t)
/-- drawings -/
def zx_d0 : zq_D := ((0, 0, fun _ _ => 0) : Nat × Nat × (Nat → Nat → Nat))
def zx_row (T : Nat → Nat) (n t : Nat) (d : zq_D) : zq_D := ((if d.t = 0 then zp_V T n t else d.w, d.t + 1, fun x y => if y = d.t then (if x < zp_V T n t then zt_cn (T (zt_a T n t + 1 + x)) else 0) else d.c x y) : Nat × Nat × (Nat → Nat → Nat))
def zx_qr (T : Nat → Nat) (n t : Nat) (d : zq_D) (q : Nat × Nat) : Nat × Nat := if d.t = 0 ∨ zp_V T n t = d.w then q else zx_n q 5 (zt_a T n t)
abbrev zx_OD : Type := (Nat × zq_D × (Nat × Nat)) ⊕ (Nat × Nat)
def zx_rw (T : Nat → Nat) (n : Nat) : Nat → Nat → zq_D → Nat × Nat → zx_OD
  | 0, t, _, _ => .inr (2, t)
  | f + 1, t, d, q => if d.t < 12 ∧ t < 500 then (if zt_K T n (t + 1) = 4 then zx_rw T n f (t + 1) (zx_row T n t d) (zx_qr T n t d q) else .inl (t + 1, zx_row T n t d, zx_qr T n t d q)) else .inr (2, t)
/-- an empty drawing -/
def zx_q0 (T : Nat → Nat) (n t : Nat) (d : zq_D) (q : Nat × Nat) : Nat × Nat := if zq_hf d d.t = 0 then zx_n q 5 (zt_a T n t) else q
def zx_draw (T : Nat → Nat) (n t : Nat) (ts : List Nat) (q : Nat × Nat) : zx_OD :=
  zx_need (zt_K T n) 2 (t + 1) (if zt_K T n (t + 2) = 4 then (match zx_rw T n 13 (t + 2) zx_d0 (zx_qn T n ts q (t + 1)) with
    | .inr y => .inr y
    | .inl x => zx_need (zt_K T n) 5 x.1 (.inl (x.1 + 1, x.2.1, zx_q0 T n (x.1 - 1) x.2.1 x.2.2))) else .inr (1, t + 2))
def zx_hc (H : zq_H) (d : zq_D) : zq_H := ((H.ns, H.nc + 1, H.nr, H.fl, H.sl, H.ea, zx_up H.D H.nc d) : Nat × Nat × Nat × (Nat → Nat → Nat) × (Nat → Nat → Nat) × (Nat → Nat) × (Nat → zq_D))
def zx_hr (H : zq_H) (d : zq_D) : zq_H := ((H.ns, H.nc, H.nr + 1, H.fl, H.sl, H.ea, zx_up H.D (6 + H.nr) d) : Nat × Nat × Nat × (Nat → Nat → Nat) × (Nat → Nat → Nat) × (Nat → Nat) × (Nat → zq_D))
def zx_cut (T : Nat → Nat) (n t : Nat) (σ : zx_S) : zx_O := if σ.1.nc < 6 ∧ t < 500 then (match zx_draw T n t σ.2.2.1 σ.2.2.2 with
    | .inr y => .inr y
    | .inl x => .inl (x.1, (zx_hc σ.1 x.2.1, σ.2.1, (t + 1) :: σ.2.2.1, x.2.2))) else .inr (2, t)
def zx_rough (T : Nat → Nat) (n t : Nat) (σ : zx_S) : zx_O := if σ.1.nr < 4 ∧ t < 500 then (match zx_draw T n t σ.2.2.1 σ.2.2.2 with
    | .inr y => .inr y
    | .inl x => .inl (x.1, (zx_hr σ.1 x.2.1, σ.2.1, (t + 1) :: σ.2.2.1, x.2.2))) else .inr (2, t)
def zx_tell (T : Nat → Nat) (n t : Nat) (σ : zx_S) : zx_O := if zt_K T n t = 19 then zx_cut T n t σ else if zt_K T n t = 20 then zx_rough T n t σ else if zt_K T n t = 21 then zx_grade T n t σ else if zt_K T n t = 22 then zx_price T n t σ else zx_stuff T n t σ
def zx_text (T : Nat → Nat) (n : Nat) : Nat → Nat → zx_S → zx_O
  | 0, t, _ => .inr (1, t)
  | f + 1, t, σ => if zt_K T n t = 0 then .inl (t, σ) else match zx_tell T n t σ with
    | .inr y => .inr y
    | .inl x => zx_text T n f x.1 x.2
/-- where a later fault may lie -/
def zx_qk (T : Nat → Nat) (n t : Nat) (q : Nat × Nat) : Prop := q.1 ≠ 0 → (q.1 = 3 ∨ q.1 = 5) ∧ ∃ e, e < t ∧ q.2 = zt_a T n e
/-- what holds between TELLS -/
def zx_P (T : Nat → Nat) (n t : Nat) (σ : zx_S) : Prop := t ≤ 500 ∧ zt_go T n t ∧ σ.1.ns ≤ 4 ∧ σ.1.nc ≤ 6 ∧ σ.1.nr ≤ 4 ∧ σ.2.1.1 ≤ 8 ∧ σ.2.1.2.1 ≤ 8 ∧ σ.2.2.1.length = σ.1.ns + σ.1.nc + σ.1.nr + σ.2.1.1 + σ.2.1.2.1 ∧ (∀ u, u ∈ σ.2.2.1 → u ≤ 500 ∧ zt_go T n u ∧ zt_K T n u = 2) ∧ zx_qk T n t σ.2.2.2 ∧ (σ.2.2.2.1 = 0 → zq_HK σ.1 ∧ zr_QK σ.2.1)
def zx_ok (T : Nat → Nat) (n t : Nat) (ω : zx_O) : Prop := match ω with
  | .inl x => t + 2 ≤ x.1 ∧ zx_P T n x.1 x.2
  | .inr y => y.1 = 1 ∨ y.1 = 2
theorem zx_a_lt {T : Nat → Nat} {n e : Nat} : ∀ {t : Nat}, zt_go T n t → e < t → zt_a T n e < zt_a T n t
  | 0, _, h => absurd h (Nat.not_lt_zero _)
  | t + 1, hg, h => by
    have h1 : zt_a T n t < n := by
      by_cases c : zt_a T n t < n
      · exact c
      · have := (hg t (by omega)).1
        unfold zt_K at this
        rw [if_neg c] at this
        exact absurd rfl this
    have h2 := zt_a_lt h1
    by_cases c : e = t
    · subst c; exact h2
    · have := zx_a_lt (T := T) (n := n) (e := e) (t := t) (fun j hj => hg j (by omega)) (by omega)
      omega
theorem zx_n_w {q : Nat × Nat} {f p : Nat} (h : q.1 ≠ 0 → q.2 < p ∨ (q.2 = p ∧ q.1 ≤ f)) : zn_w q f p = zx_n q f p := by
  unfold zn_w zx_n
  by_cases c : q.1 = 0
  · rw [if_pos c, if_pos c]
  · rw [if_neg c, if_neg c]
    rcases h c with h | ⟨h1, h2⟩
    · rw [if_pos h]
    · rw [if_neg (by omega), if_neg (by omega), if_neg (by omega)]
theorem zx_n_k {T : Nat → Nat} {n t t2 f e : Nat} {q : Nat × Nat} (h : zx_qk T n t q) (hf : f = 3 ∨ f = 5) (he : e < t2) (ht : t ≤ t2) : zx_qk T n t2 (zx_n q f (zt_a T n e)) := by
  unfold zx_n
  by_cases c : q.1 = 0
  · rw [if_pos c]
    exact fun _ => ⟨hf, e, he, rfl⟩
  · rw [if_neg c]
    intro _
    obtain ⟨h1, e2, h2, h3⟩ := h c
    exact ⟨h1, e2, by omega, h3⟩
theorem zx_qk_up {T : Nat → Nat} {n t t2 : Nat} {q : Nat × Nat} (h : zx_qk T n t q) (ht : t ≤ t2) : zx_qk T n t2 q := fun c => by
  obtain ⟨h1, e2, h2, h3⟩ := h c
  exact ⟨h1, e2, by omega, h3⟩
theorem zx_qn_k {T : Nat → Nat} {n t t2 e : Nat} {ts : List Nat} {q : Nat × Nat} (h : zx_qk T n t q) (he : e < t2) (ht : t ≤ t2) : zx_qk T n t2 (zx_qn T n ts q e) := by
  unfold zx_qn
  split
  · exact zx_n_k h (Or.inl rfl) he ht
  · exact zx_qk_up h ht
theorem zx_qs_k {T : Nat → Nat} {n t t2 e : Nat} {q : Nat × Nat} (h : zx_qk T n t q) (he : e < t2) (ht : t ≤ t2) : zx_qk T n t2 (zx_qs T n q e) := by
  unfold zx_qs
  split
  · exact zx_n_k h (Or.inr rfl) he ht
  · exact zx_qk_up h ht
theorem zx_qr_k {T : Nat → Nat} {n t t2 e : Nat} {d : zq_D} {q : Nat × Nat} (h : zx_qk T n t q) (he : e < t2) (ht : t ≤ t2) : zx_qk T n t2 (zx_qr T n e d q) := by
  unfold zx_qr
  split
  · exact zx_qk_up h ht
  · exact zx_n_k h (Or.inr rfl) he ht
theorem zx_q0_k {T : Nat → Nat} {n t t2 e : Nat} {d : zq_D} {q : Nat × Nat} (h : zx_qk T n t q) (he : e < t2) (ht : t ≤ t2) : zx_qk T n t2 (zx_q0 T n e d q) := by
  unfold zx_q0
  split
  · exact zx_n_k h (Or.inr rfl) he ht
  · exact zx_qk_up h ht
/-- what noted nothing -/
theorem zx_n_0 {q : Nat × Nat} {f p : Nat} (hf : f ≠ 0) : (zx_n q f p).1 ≠ 0 := by
  unfold zx_n
  split
  · exact hf
  · assumption
theorem zx_qn_0 {T : Nat → Nat} {n : Nat} {ts : List Nat} {q : Nat × Nat} {t : Nat} (h : (zx_qn T n ts q t).1 = 0) : zx_qn T n ts q t = q := by
  unfold zx_qn at h ⊢
  split at h
  · exact absurd h (zx_n_0 (by decide))
  · rename_i c; rw [if_neg c]
theorem zx_qs_0 {T : Nat → Nat} {n : Nat} {q : Nat × Nat} {t : Nat} (h : (zx_qs T n q t).1 = 0) : zx_qs T n q t = q ∧ zp_V T n t ≤ 1000 := by
  unfold zx_qs at h ⊢
  by_cases c : 1000 < zp_V T n t
  · rw [if_pos c] at h; exact absurd h (zx_n_0 (by decide))
  · rw [if_neg c]; exact ⟨rfl, by omega⟩
theorem zx_qr_0 {T : Nat → Nat} {n : Nat} {d : zq_D} {q : Nat × Nat} {t : Nat} (h : (zx_qr T n t d q).1 = 0) : zx_qr T n t d q = q ∧ (d.t = 0 ∨ zp_V T n t = d.w) := by
  unfold zx_qr at h ⊢
  by_cases c : d.t = 0 ∨ zp_V T n t = d.w
  · rw [if_pos c]; exact ⟨rfl, c⟩
  · rw [if_neg c] at h; exact absurd h (zx_n_0 (by decide))
theorem zx_q0_0 {T : Nat → Nat} {n : Nat} {d : zq_D} {q : Nat × Nat} {t : Nat} (h : (zx_q0 T n t d q).1 = 0) : zx_q0 T n t d q = q ∧ zq_hf d d.t ≠ 0 := by
  unfold zx_q0 at h ⊢
  by_cases c : zq_hf d d.t = 0
  · rw [if_pos c] at h; exact absurd h (zx_n_0 (by decide))
  · rw [if_neg c]; exact ⟨rfl, c⟩
/-- a condition's outcome -/
theorem zx_Cn_ok {T : Nat → Nat} {n : Nat} : ∀ (f t : Nat) (o : Bool), t ≤ 500 → zt_go T n t → match zp_Cn (zt_K T n) (zp_V T n) f t o with
    | .inl x => t + 3 ≤ x.1 ∧ x.1 ≤ 500 ∧ zt_go T n x.1 ∧ (∀ l, l ∈ x.2 → zr_ok l) ∧ ∃ r rs, x.2 = (o, r) :: rs
    | .inr y => y.1 = 1 ∨ y.1 = 2
  | 0, t, o, ht, hg => Or.inl rfl
  | f + 1, t, o, ht, hg => by
    have lo := zp_Lt_ok (T := T) (n := n) ht hg
    rw [zp_Cn]
    cases hL : zp_Lt (zt_K T n) (zp_V T n) t with
    | inr y => rw [hL] at lo; exact lo.1
    | inl r =>
      rw [hL] at lo
      obtain ⟨u1, u2, u3, u4, u5, u6, u7, u8⟩ := lo
      dsimp only
      by_cases c : zt_K T n r.1 = 26 ∨ zt_K T n r.1 = 25
      · rw [if_pos c]
        by_cases c2 : r.1 < 500
        · rw [if_pos c2]
          have ih := zx_Cn_ok (T := T) (n := n) f (r.1 + 1) (decide (zt_K T n r.1 = 25)) (by omega) (zp_go u3 (by omega) (by omega))
          cases hC : zp_Cn (zt_K T n) (zp_V T n) f (r.1 + 1) (decide (zt_K T n r.1 = 25)) with
          | inr y => rw [hC] at ih; exact ih
          | inl x =>
            rw [hC] at ih
            obtain ⟨i1, i2, i3, i4, -⟩ := ih
            refine ⟨by show t + 3 ≤ x.1; omega, i2, i3, fun l hl => ?_, r.2, x.2, rfl⟩
            rcases List.mem_cons.mp hl with e | e
            · rw [e]; exact ⟨u6, u7, u8⟩
            · exact i4 l e
        · rw [if_neg c2]; exact Or.inr rfl
      · rw [if_neg c]
        refine ⟨u5, u2, u3, fun l hl => ?_, r.2, [], rfl⟩
        rcases List.mem_cons.mp hl with e | e
        · rw [e]; exact ⟨u6, u7, u8⟩
        · exact absurd e List.not_mem_nil
