/-! ===== what a function leaves alone ===== -/
def zw_FR (U : Nat → Prop) (I2 I : zI) (J2 J : zJ) : Prop := (∀ a, ¬ U a → I2 a = I a) ∧ (∀ a, ¬ U a → J2 a = J a)
theorem zw_FR.rf {U : Nat → Prop} {I : zI} {J : zJ} : zw_FR U I I J J := ⟨fun _ _ => rfl, fun _ _ => rfl⟩
theorem zw_FR.tr {U : Nat → Prop} {I3 I2 I : zI} {J3 J2 J : zJ} (h : zw_FR U I3 I2 J3 J2) (h1 : zw_FR U I2 I J2 J) : zw_FR U I3 I J3 J := ⟨fun a ha => (h.1 a ha).trans (h1.1 a ha), fun a ha => (h.2 a ha).trans (h1.2 a ha)⟩
theorem zw_FR.wI {U : Nat → Prop} {I3 I2 I : zI} {J2 J : zJ} {o j : Nat} {v : Int32} (h : zw_FR U I2 I J2 J) (e : I3 = zw_u I2 o j v) (ho : U o) : zw_FR U I3 I J2 J := ⟨fun a ha => by rw [e]; exact (zw_u_off _ _ _ (fun q : a = o => ha (by rw [q]; exact ho))).trans (h.1 a ha), h.2⟩
theorem zw_FR.wJ {U : Nat → Prop} {I2 I : zI} {J3 J2 J : zJ} {o j : Nat} {v : Int64} (h : zw_FR U I2 I J2 J) (e : J3 = zw_u J2 o j v) (ho : U o) : zw_FR U I2 I J3 J := ⟨h.1, fun a ha => by rw [e]; exact (zw_u_off _ _ _ (fun q : a = o => ha (by rw [q]; exact ho))).trans (h.2 a ha)⟩
theorem zw_itF {σ ρ : Type} {step : σ → Option (σ ⊕ ρ)} {A : σ → σ → Prop} {Q : ρ → σ → Prop} (h : ∀ s o, step s = some o → zw_se (fun t => A t s) (fun r => Q r s) o) (ht : ∀ {s t : σ} {r : ρ}, A t s → Q r t → Q r s) : ∀ (n : Nat) (s : σ) (r : ρ), zw_it step n s = some r → Q r s
  | 0, s, r, he => by cases he
  | n + 1, s, r, he => by
    obtain ⟨o, h1, h2⟩ := zw_bdE (a := step s) he
    have h3 := h s o h1
    cases o with
    | inl t => exact ht h3 (zw_itF h ht n t r h2)
    | inr r2 => cases h2; exact h3
def zp_J7_fill_53178_5 (I : zI) (J : zJ) (o : (Int32 × zI) ⊕ (zI)) : zI × zJ := match o with | .inl t => (t.2, J) | .inr r => (r, J)
theorem fr_s_J7_fill_53178_5 (U : Nat → Prop) {R : zR} (hU : ∀ o j, U o → U (R o j)) (v0 : Nat) (v1 : Int32) (v3 : Int32) (J : zJ) (hv0 : U v0) (s : Int32 × zI) (o : (Int32 × zI) ⊕ (zI)) (hf : s_J7_fill_53178_5 v0 v1 v3 s = some o) : zw_FR U (zp_J7_fill_53178_5 s.2 J o).1 (s.2) (zp_J7_fill_53178_5 s.2 J o).2 (J) := by
  have hF : zw_FR U (s.2) (s.2) (J) (J) := zw_FR.rf
  unfold s_J7_fill_53178_5 at hf
  rcases zw_ifE hf with ⟨c3, hf⟩ | ⟨c3, hf⟩
  ·
    cases hf
    exact hF
  ·
    obtain ⟨g4, hf⟩ := zw_gcE hf (by decide)
    obtain ⟨i5, hf⟩ := zw_inE hf
    obtain ⟨I6, eI6, hf⟩ := zw_letE hf
    have hF := hF.wI eI6 hv0
    obtain ⟨x7, ex7, hf⟩ := zw_letE hf
    cases hf
    exact hF
theorem fr_s_J7_fill_53178_5_lp (U : Nat → Prop) {R : zR} (hU : ∀ o j, U o → U (R o j)) (v0 : Nat) (v1 : Int32) (v3 : Int32) (J : zJ) (hv0 : U v0) (n : Nat) (s : Int32 × zI) (r : zI) (h : zw_it (s_J7_fill_53178_5 v0 v1 v3) n s = some r) : zw_FR U (zp_J7_fill_53178_5 (s.2) (J) (.inr r)).1 (s.2) (zp_J7_fill_53178_5 (s.2) (J) (.inr r)).2 (J) :=
  zw_itF (A := fun t t0 : Int32 × zI => zw_FR U (t.2) (t0.2) (J) (J)) (Q := fun (r : zI) (t : Int32 × zI) => zw_FR U (zp_J7_fill_53178_5 (t.2) (J) (.inr r)).1 (t.2) (zp_J7_fill_53178_5 (t.2) (J) (.inr r)).2 (J)) (fun s o h1 => by
    have h2 := fr_s_J7_fill_53178_5 U hU v0 v1 v3 J hv0 s o h1
    cases o with
    | inl t => exact h2
    | inr r => exact h2) (fun h1 h2 => zw_FR.tr h2 h1) n s r h
theorem fr_J7_fill_53178 (U : Nat → Prop) {R : zR} (hU : ∀ o j, U o → U (R o j)) (v0 : Nat) (v1 : Int32) (I : zI) (J : zJ) (hv0 : U v0) (o : zI) (hf : f_J7_fill_53178 v0 v1 I = some o) : zw_FR U (o) (I) (J) (J) := by
  have hF : zw_FR U I I J J := zw_FR.rf
  unfold f_J7_fill_53178 at hf
  obtain ⟨g1, hf⟩ := zw_gcE hf (by decide)
  obtain ⟨x2, ex2, hf⟩ := zw_letE hf
  obtain ⟨q8, hq8, hf⟩ := zw_bdE hf
  have hF := (fr_s_J7_fill_53178_5_lp U hU v0 v1 x2 J hv0 _ _ _ hq8).tr hF
  cases hf
  exact hF
theorem fr_X0_empty (U : Nat → Prop) {R : zR} (hU : ∀ o j, U o → U (R o j)) (v0 : Nat) (I : zI) (J : zJ) (hv0 : U v0) (o : zI) (hf : f_X0_empty v0 I = some o) : zw_FR U (o) (I) (J) (J) := by
  have hF : zw_FR U I I J J := zw_FR.rf
  unfold f_X0_empty at hf
  obtain ⟨g1, hf⟩ := zw_gcE hf (by decide)
  obtain ⟨I2, eI2, hf⟩ := zw_letE hf
  have hF := hF.wI eI2 hv0
  obtain ⟨I3, eI3, hf⟩ := zw_letE hf
  have hF := hF.wI eI3 hv0
  cases hf
  exact hF
theorem fr_X10_back (U : Nat → Prop) {R : zR} (hU : ∀ o j, U o → U (R o j)) (v0 : Nat) (v1 : Int32) (I : zI) (J : zJ) (hv0 : U v0) (o : Int32 × zI) (hf : f_X10_back v0 v1 I R = some o) : zw_FR U (o.2) (I) (J) (J) := by
  have hF : zw_FR U I I J J := zw_FR.rf
  unfold f_X10_back at hf
  rcases zw_ifE hf with ⟨c1, hf⟩ | ⟨c1, hf⟩
  ·
    cases hf
    exact hF
  ·
    obtain ⟨g2, hf⟩ := zw_gcE hf (by decide)
    obtain ⟨g3, hf⟩ := zw_gcE hf (by decide)
    rcases zw_ifE hf with ⟨c4, hf⟩ | ⟨c4, hf⟩
    ·
      obtain ⟨I5, eI5, hf⟩ := zw_letE hf
      have hF := hF.wI eI5 (hU _ _ hv0)
      cases hf
      exact hF
    ·
      cases hf
      exact hF
theorem fr_X10_lay (U : Nat → Prop) {R : zR} (hU : ∀ o j, U o → U (R o j)) (v0 : Nat) (v1 : Int32) (v2 : Int32) (v3 : Int32) (I : zI) (J : zJ) (hv0 : U v0) (o : zI) (hf : f_X10_lay v0 v1 v2 v3 I R = some o) : zw_FR U (o) (I) (J) (J) := by
  have hF : zw_FR U I I J J := zw_FR.rf
  unfold f_X10_lay at hf
  obtain ⟨g1, hf⟩ := zw_gcE hf (by decide)
  obtain ⟨g2, hf⟩ := zw_gcE hf (by decide)
  obtain ⟨i3, hf⟩ := zw_inE hf
  obtain ⟨I4, eI4, hf⟩ := zw_letE hf
  have hF := hF.wI eI4 (hU _ _ hv0)
  obtain ⟨i5, hf⟩ := zw_inE hf
  obtain ⟨I6, eI6, hf⟩ := zw_letE hf
  have hF := hF.wI eI6 (hU _ _ hv0)
  obtain ⟨i7, hf⟩ := zw_inE hf
  obtain ⟨I8, eI8, hf⟩ := zw_letE hf
  have hF := hF.wI eI8 (hU _ _ hv0)
  cases hf
  exact hF
def zp_X11_again_2 (I : zI) (J : zJ) (o : (Int32 × zI) ⊕ (zI)) : zI × zJ := match o with | .inl t => (t.2, J) | .inr r => (r, J)
theorem fr_s_X11_again_2 (U : Nat → Prop) {R : zR} (hU : ∀ o j, U o → U (R o j)) (v0 : Nat) (J : zJ) (hv0 : U v0) (s : Int32 × zI) (o : (Int32 × zI) ⊕ (zI)) (hf : s_X11_again_2 v0 R s = some o) : zw_FR U (zp_X11_again_2 s.2 J o).1 (s.2) (zp_X11_again_2 s.2 J o).2 (J) := by
  have hF : zw_FR U (s.2) (s.2) (J) (J) := zw_FR.rf
  unfold s_X11_again_2 at hf
  rcases zw_ifE hf with ⟨c1, hf⟩ | ⟨c1, hf⟩
  ·
    cases hf
    exact hF
  ·
    obtain ⟨g2, hf⟩ := zw_gcE hf (by decide)
    obtain ⟨g3, hf⟩ := zw_gcE hf (by decide)
    obtain ⟨g4, hf⟩ := zw_gcE hf (by decide)
    obtain ⟨i5, hf⟩ := zw_inE hf
    obtain ⟨i6, hf⟩ := zw_inE hf
    obtain ⟨I7, eI7, hf⟩ := zw_letE hf
    have hF := hF.wI eI7 (hU _ _ hv0)
    obtain ⟨x8, ex8, hf⟩ := zw_letE hf
    cases hf
    exact hF
theorem fr_s_X11_again_2_lp (U : Nat → Prop) {R : zR} (hU : ∀ o j, U o → U (R o j)) (v0 : Nat) (J : zJ) (hv0 : U v0) (n : Nat) (s : Int32 × zI) (r : zI) (h : zw_it (s_X11_again_2 v0 R) n s = some r) : zw_FR U (zp_X11_again_2 (s.2) (J) (.inr r)).1 (s.2) (zp_X11_again_2 (s.2) (J) (.inr r)).2 (J) :=
  zw_itF (A := fun t t0 : Int32 × zI => zw_FR U (t.2) (t0.2) (J) (J)) (Q := fun (r : zI) (t : Int32 × zI) => zw_FR U (zp_X11_again_2 (t.2) (J) (.inr r)).1 (t.2) (zp_X11_again_2 (t.2) (J) (.inr r)).2 (J)) (fun s o h1 => by
    have h2 := fr_s_X11_again_2 U hU v0 J hv0 s o h1
    cases o with
    | inl t => exact h2
    | inr r => exact h2) (fun h1 h2 => zw_FR.tr h2 h1) n s r h
theorem fr_X11_again (U : Nat → Prop) {R : zR} (hU : ∀ o j, U o → U (R o j)) (v0 : Nat) (I : zI) (J : zJ) (hv0 : U v0) (o : zI) (hf : f_X11_again v0 I R = some o) : zw_FR U (o) (I) (J) (J) := by
  have hF : zw_FR U I I J J := zw_FR.rf
  unfold f_X11_again at hf
  obtain ⟨q9, hq9, hf⟩ := zw_bdE hf
  have hF := (fr_s_X11_again_2_lp U hU v0 J hv0 _ _ _ hq9).tr hF
  cases hf
  exact hF
theorem fr_X11_back (U : Nat → Prop) {R : zR} (hU : ∀ o j, U o → U (R o j)) (v0 : Nat) (v1 : Int32) (I : zI) (J : zJ) (hv0 : U v0) (o : Int32 × zI) (hf : f_X11_back v0 v1 I = some o) : zw_FR U (o.2) (I) (J) (J) := by
  have hF : zw_FR U I I J J := zw_FR.rf
  unfold f_X11_back at hf
  rcases zw_ifE hf with ⟨c1, hf⟩ | ⟨c1, hf⟩
  ·
    cases hf
    exact hF
  ·
    obtain ⟨g2, hf⟩ := zw_gcE hf (by decide)
    rcases zw_ifE hf with ⟨c3, hf⟩ | ⟨c3, hf⟩
    ·
      obtain ⟨I4, eI4, hf⟩ := zw_letE hf
      have hF := hF.wI eI4 hv0
      cases hf
      exact hF
    ·
      cases hf
      exact hF
def zp_X11_darkens_2 (I : zI) (J : zJ) (o : (Int32 × zI) ⊕ (zI)) : zI × zJ := match o with | .inl t => (t.2, J) | .inr r => (r, J)
theorem fr_s_X11_darkens_2 (U : Nat → Prop) {R : zR} (hU : ∀ o j, U o → U (R o j)) (v0 : Nat) (J : zJ) (hv0 : U v0) (s : Int32 × zI) (o : (Int32 × zI) ⊕ (zI)) (hf : s_X11_darkens_2 v0 R s = some o) : zw_FR U (zp_X11_darkens_2 s.2 J o).1 (s.2) (zp_X11_darkens_2 s.2 J o).2 (J) := by
  have hF : zw_FR U (s.2) (s.2) (J) (J) := zw_FR.rf
  unfold s_X11_darkens_2 at hf
  rcases zw_ifE hf with ⟨c1, hf⟩ | ⟨c1, hf⟩
  ·
    cases hf
    exact hF
  ·
    obtain ⟨g2, hf⟩ := zw_gcE hf (by decide)
    obtain ⟨g3, hf⟩ := zw_gcE hf (by decide)
    obtain ⟨i4, hf⟩ := zw_inE hf
    obtain ⟨I5, eI5, hf⟩ := zw_letE hf
    have hF := hF.wI eI5 (hU _ _ hv0)
    obtain ⟨x6, ex6, hf⟩ := zw_letE hf
    cases hf
    exact hF
theorem fr_s_X11_darkens_2_lp (U : Nat → Prop) {R : zR} (hU : ∀ o j, U o → U (R o j)) (v0 : Nat) (J : zJ) (hv0 : U v0) (n : Nat) (s : Int32 × zI) (r : zI) (h : zw_it (s_X11_darkens_2 v0 R) n s = some r) : zw_FR U (zp_X11_darkens_2 (s.2) (J) (.inr r)).1 (s.2) (zp_X11_darkens_2 (s.2) (J) (.inr r)).2 (J) :=
  zw_itF (A := fun t t0 : Int32 × zI => zw_FR U (t.2) (t0.2) (J) (J)) (Q := fun (r : zI) (t : Int32 × zI) => zw_FR U (zp_X11_darkens_2 (t.2) (J) (.inr r)).1 (t.2) (zp_X11_darkens_2 (t.2) (J) (.inr r)).2 (J)) (fun s o h1 => by
    have h2 := fr_s_X11_darkens_2 U hU v0 J hv0 s o h1
    cases o with
    | inl t => exact h2
    | inr r => exact h2) (fun h1 h2 => zw_FR.tr h2 h1) n s r h
def zp_X11_darkens_22 (I : zI) (J : zJ) (o : (Int32 × zI) ⊕ (zI)) : zI × zJ := match o with | .inl t => (t.2, J) | .inr r => (r, J)
theorem fr_s_X11_darkens_22 (U : Nat → Prop) {R : zR} (hU : ∀ o j, U o → U (R o j)) (v0 : Nat) (J : zJ) (hv0 : U v0) (s : Int32 × zI) (o : (Int32 × zI) ⊕ (zI)) (hf : s_X11_darkens_22 v0 R s = some o) : zw_FR U (zp_X11_darkens_22 s.2 J o).1 (s.2) (zp_X11_darkens_22 s.2 J o).2 (J) := by
  have hF : zw_FR U (s.2) (s.2) (J) (J) := zw_FR.rf
  unfold s_X11_darkens_22 at hf
  rcases zw_ifE hf with ⟨c8, hf⟩ | ⟨c8, hf⟩
  ·
    cases hf
    exact hF
  ·
    obtain ⟨g9, hf⟩ := zw_gcE hf (by decide)
    obtain ⟨g10, hf⟩ := zw_gcE hf (by decide)
    obtain ⟨i11, hf⟩ := zw_inE hf
    obtain ⟨I12, eI12, hf⟩ := zw_letE hf
    have hF := hF.wI eI12 (hU _ _ hv0)
    obtain ⟨x13, ex13, hf⟩ := zw_letE hf
    cases hf
    exact hF
theorem fr_s_X11_darkens_22_lp (U : Nat → Prop) {R : zR} (hU : ∀ o j, U o → U (R o j)) (v0 : Nat) (J : zJ) (hv0 : U v0) (n : Nat) (s : Int32 × zI) (r : zI) (h : zw_it (s_X11_darkens_22 v0 R) n s = some r) : zw_FR U (zp_X11_darkens_22 (s.2) (J) (.inr r)).1 (s.2) (zp_X11_darkens_22 (s.2) (J) (.inr r)).2 (J) :=
  zw_itF (A := fun t t0 : Int32 × zI => zw_FR U (t.2) (t0.2) (J) (J)) (Q := fun (r : zI) (t : Int32 × zI) => zw_FR U (zp_X11_darkens_22 (t.2) (J) (.inr r)).1 (t.2) (zp_X11_darkens_22 (t.2) (J) (.inr r)).2 (J)) (fun s o h1 => by
    have h2 := fr_s_X11_darkens_22 U hU v0 J hv0 s o h1
    cases o with
    | inl t => exact h2
    | inr r => exact h2) (fun h1 h2 => zw_FR.tr h2 h1) n s r h
theorem fr_X11_darkens (U : Nat → Prop) {R : zR} (hU : ∀ o j, U o → U (R o j)) (v0 : Nat) (I : zI) (J : zJ) (hv0 : U v0) (o : zI) (hf : f_X11_darkens v0 I R = some o) : zw_FR U (o) (I) (J) (J) := by
  have hF : zw_FR U I I J J := zw_FR.rf
  unfold f_X11_darkens at hf
  obtain ⟨q7, hq7, hf⟩ := zw_bdE hf
  have hF := (fr_s_X11_darkens_2_lp U hU v0 J hv0 _ _ _ hq7).tr hF
  obtain ⟨q14, hq14, hf⟩ := zw_bdE hf
  have hF := (fr_s_X11_darkens_22_lp U hU v0 J hv0 _ _ _ hq14).tr hF
  obtain ⟨g15, hf⟩ := zw_gcE hf (by decide)
  obtain ⟨I16, eI16, hf⟩ := zw_letE hf
  have hF := hF.wI eI16 hv0
  obtain ⟨I17, eI17, hf⟩ := zw_letE hf
  have hF := hF.wI eI17 hv0
  obtain ⟨I18, eI18, hf⟩ := zw_letE hf
  have hF := hF.wI eI18 hv0
  obtain ⟨I19, eI19, hf⟩ := zw_letE hf
  have hF := hF.wI eI19 hv0
  obtain ⟨I20, eI20, hf⟩ := zw_letE hf
  have hF := hF.wI eI20 hv0
  obtain ⟨I21, eI21, hf⟩ := zw_letE hf
  have hF := hF.wI eI21 hv0
  cases hf
  exact hF
theorem fr_X11_emit (U : Nat → Prop) {R : zR} (hU : ∀ o j, U o → U (R o j)) (v0 : Nat) (v1 : Int32) (v2 : Int32) (I : zI) (J : zJ) (hv0 : U v0) (o : zI) (hf : f_X11_emit v0 v1 v2 I R = some o) : zw_FR U (o) (I) (J) (J) := by
  have hF : zw_FR U I I J J := zw_FR.rf
  unfold f_X11_emit at hf
  obtain ⟨g1, hf⟩ := zw_gcE hf (by decide)
  obtain ⟨g2, hf⟩ := zw_gcE hf (by decide)
  obtain ⟨i3, hf⟩ := zw_inE hf
  obtain ⟨I4, eI4, hf⟩ := zw_letE hf
  have hF := hF.wI eI4 (hU _ _ hv0)
  obtain ⟨g5, hf⟩ := zw_gcE hf (by decide)
  obtain ⟨i6, hf⟩ := zw_inE hf
  obtain ⟨I7, eI7, hf⟩ := zw_letE hf
  have hF := hF.wI eI7 (hU _ _ hv0)
  obtain ⟨I8, eI8, hf⟩ := zw_letE hf
  have hF := hF.wI eI8 hv0
  cases hf
  exact hF
theorem fr_X11_fail (U : Nat → Prop) {R : zR} (hU : ∀ o j, U o → U (R o j)) (v0 : Nat) (v1 : Int32) (I : zI) (J : zJ) (hv0 : U v0) (o : zI) (hf : f_X11_fail v0 v1 I R = some o) : zw_FR U (o) (I) (J) (J) := by
  have hF : zw_FR U I I J J := zw_FR.rf
  unfold f_X11_fail at hf
  obtain ⟨g1, hf⟩ := zw_gcE hf (by decide)
  rcases zw_ifE hf with ⟨c2, hf⟩ | ⟨c2, hf⟩
  ·
    obtain ⟨I3, eI3, hf⟩ := zw_letE hf
    have hF := hF.wI eI3 hv0
    obtain ⟨g4, hf⟩ := zw_gcE hf (by decide)
    obtain ⟨i5, hf⟩ := zw_inE hf
    obtain ⟨I6, eI6, hf⟩ := zw_letE hf
    have hF := hF.wI eI6 hv0
    cases hf
    exact hF
  ·
    cases hf
    exact hF
theorem fr_X11_goesOut (U : Nat → Prop) {R : zR} (hU : ∀ o j, U o → U (R o j)) (v0 : Nat) (v1 : Int32) (v2 : Int32) (v3 : Int32) (I : zI) (J : zJ) (hv0 : U v0) (o : zI) (hf : f_X11_goesOut v0 v1 v2 v3 I R = some o) : zw_FR U (o) (I) (J) (J) := by
  have hF : zw_FR U I I J J := zw_FR.rf
  unfold f_X11_goesOut at hf
  obtain ⟨g1, hf⟩ := zw_gcE hf (by decide)
  obtain ⟨g2, hf⟩ := zw_gcE hf (by decide)
  obtain ⟨i3, hf⟩ := zw_inE hf
  obtain ⟨i4, hf⟩ := zw_inE hf
  obtain ⟨I5, eI5, hf⟩ := zw_letE hf
  have hF := hF.wI eI5 (hU _ _ hv0)
  rcases zw_ifE hf with ⟨c6, hf⟩ | ⟨c6, hf⟩
  ·
    cases hf
    exact hF
  ·
    obtain ⟨g7, hf⟩ := zw_gcE hf (by decide)
    obtain ⟨i8, hf⟩ := zw_inE hf
    obtain ⟨i9, hf⟩ := zw_inE hf
    obtain ⟨I10, eI10, hf⟩ := zw_letE hf
    have hF := hF.wI eI10 (hU _ _ hv0)
    cases hf
    exact hF
def zp_X11_put_3 (I : zI) (J : zJ) (o : (Int32 × zI) ⊕ (zI)) : zI × zJ := match o with | .inl t => (t.2, J) | .inr r => (r, J)
theorem fr_s_X11_put_3 (U : Nat → Prop) {R : zR} (hU : ∀ o j, U o → U (R o j)) (v0 : Nat) (v1 : Int32) (J : zJ) (hv0 : U v0) (s : Int32 × zI) (o : (Int32 × zI) ⊕ (zI)) (hf : s_X11_put_3 v0 v1 R s = some o) : zw_FR U (zp_X11_put_3 s.2 J o).1 (s.2) (zp_X11_put_3 s.2 J o).2 (J) := by
  have hF : zw_FR U (s.2) (s.2) (J) (J) := zw_FR.rf
  unfold s_X11_put_3 at hf
  rcases zw_ifE hf with ⟨c1, hf⟩ | ⟨c1, hf⟩
  ·
    cases hf
    exact hF
  ·
    obtain ⟨g2, hf⟩ := zw_gcE hf (by decide)
    obtain ⟨g3, hf⟩ := zw_gcE hf (by decide)
    obtain ⟨i4, hf⟩ := zw_inE hf
    obtain ⟨I5, eI5, hf⟩ := zw_letE hf
    have hF := hF.wI eI5 (hU _ _ hv0)
    obtain ⟨I6, eI6, hf⟩ := zw_letE hf
    have hF := hF.wI eI6 hv0
    obtain ⟨x7, ex7, hf⟩ := zw_letE hf
    cases hf
    exact hF
theorem fr_s_X11_put_3_lp (U : Nat → Prop) {R : zR} (hU : ∀ o j, U o → U (R o j)) (v0 : Nat) (v1 : Int32) (J : zJ) (hv0 : U v0) (n : Nat) (s : Int32 × zI) (r : zI) (h : zw_it (s_X11_put_3 v0 v1 R) n s = some r) : zw_FR U (zp_X11_put_3 (s.2) (J) (.inr r)).1 (s.2) (zp_X11_put_3 (s.2) (J) (.inr r)).2 (J) :=
  zw_itF (A := fun t t0 : Int32 × zI => zw_FR U (t.2) (t0.2) (J) (J)) (Q := fun (r : zI) (t : Int32 × zI) => zw_FR U (zp_X11_put_3 (t.2) (J) (.inr r)).1 (t.2) (zp_X11_put_3 (t.2) (J) (.inr r)).2 (J)) (fun s o h1 => by
    have h2 := fr_s_X11_put_3 U hU v0 v1 J hv0 s o h1
    cases o with
    | inl t => exact h2
    | inr r => exact h2) (fun h1 h2 => zw_FR.tr h2 h1) n s r h
theorem fr_X11_put (U : Nat → Prop) {R : zR} (hU : ∀ o j, U o → U (R o j)) (v0 : Nat) (v1 : Int32) (I : zI) (J : zJ) (hv0 : U v0) (o : zI) (hf : f_X11_put v0 v1 I R = some o) : zw_FR U (o) (I) (J) (J) := by
  have hF : zw_FR U I I J J := zw_FR.rf
  unfold f_X11_put at hf
  obtain ⟨q8, hq8, hf⟩ := zw_bdE hf
  have hF := (fr_s_X11_put_3_lp U hU v0 v1 J hv0 _ _ _ hq8).tr hF
  cases hf
  exact hF
def zp_X11_termOf_10 (I : zI) (J : zJ) (o : (Int32 × Int32 × zI) ⊕ ((zI) ⊕ (zI))) : zI × zJ := match o with | .inl t => (t.2.2, J) | .inr r => (match r with | .inl r0 => (r0, J) | .inr t0 => (t0, J))
theorem fr_j_X11_termOf_164_10 (U : Nat → Prop) {R : zR} (hU : ∀ o j, U o → U (R o j)) (v0 : Nat) (v2 : Int32) (v3 : Int32) (v4 : Int32) (I : zI) (J : zJ)  (o : (Int32 × Int32 × zI) ⊕ ((zI) ⊕ (zI))) (hf : j_X11_termOf_164_10 v0 v2 v3 v4 I R = some o) : zw_FR U (zp_X11_termOf_10 I J o).1 (I) (zp_X11_termOf_10 I J o).2 (J) := by
  have hF : zw_FR U I I J J := zw_FR.rf
  unfold j_X11_termOf_164_10 at hf
  obtain ⟨x25, ex25, hf⟩ := zw_letE hf
  cases hf
  exact hF
theorem fr_j_X11_termOf_163_10 (U : Nat → Prop) {R : zR} (hU : ∀ o j, U o → U (R o j)) (v0 : Nat) (v2 : Int32) (v3 : Int32) (v4 : Int32) (s0 : Nat) (s1 : Int32) (s2 : Int32) (I : zI) (J : zJ) (hs0 : U s0) (o : (Int32 × Int32 × zI) ⊕ ((zI) ⊕ (zI))) (hf : j_X11_termOf_163_10 v0 v2 v3 v4 s0 s1 s2 I R = some o) : zw_FR U (zp_X11_termOf_10 I J o).1 (I) (zp_X11_termOf_10 I J o).2 (J) := by
  have hF : zw_FR U I I J J := zw_FR.rf
  unfold j_X11_termOf_163_10 at hf
  obtain ⟨g22, hf⟩ := zw_gcE hf (by decide)
  obtain ⟨i23, hf⟩ := zw_inE hf
  obtain ⟨I24, eI24, hf⟩ := zw_letE hf
  have hF := hF.wI eI24 hs0
  exact (fr_j_X11_termOf_164_10 U hU v0 v2 v3 v4 I24 J  _ hf).tr hF
theorem fr_j_X11_termOf_109_10 (U : Nat → Prop) {R : zR} (hU : ∀ o j, U o → U (R o j)) (v0 : Nat) (v2 : Int32) (v3 : Int32) (v4 : Int32) (v5 : Int32) (v6 : Int32) (v7 : Int32) (I : zI) (J : zJ) (hv0 : U v0) (o : (Int32 × Int32 × zI) ⊕ ((zI) ⊕ (zI))) (hf : j_X11_termOf_109_10 v0 v2 v3 v4 v5 v6 v7 I R = some o) : zw_FR U (zp_X11_termOf_10 I J o).1 (I) (zp_X11_termOf_10 I J o).2 (J) := by
  have hF : zw_FR U I I J J := zw_FR.rf
  unfold j_X11_termOf_109_10 at hf
  obtain ⟨g16, hf⟩ := zw_gcE hf (by decide)
  obtain ⟨g17, hf⟩ := zw_gcE hf (by decide)
  rcases zw_ifE hf with ⟨c18, hf⟩ | ⟨c18, hf⟩
  ·
    rcases zw_ifE hf with ⟨c19, hf⟩ | ⟨c19, hf⟩
    ·
      rcases zw_ifE hf with ⟨c20, hf⟩ | ⟨c20, hf⟩
      ·
        obtain ⟨n21, hf⟩ := zw_n0E hf
        exact (fr_j_X11_termOf_163_10 U hU v0 v2 v3 v4 (R v0 50) (v3 - 1) (v6 / v7) I J (hU _ _ hv0) _ hf).tr hF
      ·
        exact (fr_j_X11_termOf_163_10 U hU v0 v2 v3 v4 (R v0 50) (v3 - 1) (v6 * v7) I J (hU _ _ hv0) _ hf).tr hF
    ·
      exact (fr_j_X11_termOf_163_10 U hU v0 v2 v3 v4 (R v0 50) (v3 - 1) (v6 - v7) I J (hU _ _ hv0) _ hf).tr hF
  ·
    exact (fr_j_X11_termOf_163_10 U hU v0 v2 v3 v4 (R v0 50) (v3 - 1) (v6 + v7) I J (hU _ _ hv0) _ hf).tr hF
theorem fr_j_X11_termOf_63_10 (U : Nat → Prop) {R : zR} (hU : ∀ o j, U o → U (R o j)) (v0 : Nat) (v2 : Int32) (v3 : Int32) (v4 : Int32) (s0 : Nat) (s1 : Int32) (s2 : Int32) (I : zI) (J : zJ) (hs0 : U s0) (o : (Int32 × Int32 × zI) ⊕ ((zI) ⊕ (zI))) (hf : j_X11_termOf_63_10 v0 v2 v3 v4 s0 s1 s2 I R = some o) : zw_FR U (zp_X11_termOf_10 I J o).1 (I) (zp_X11_termOf_10 I J o).2 (J) := by
  have hF : zw_FR U I I J J := zw_FR.rf
  unfold j_X11_termOf_63_10 at hf
  obtain ⟨g33, hf⟩ := zw_gcE hf (by decide)
  obtain ⟨i34, hf⟩ := zw_inE hf
  obtain ⟨I35, eI35, hf⟩ := zw_letE hf
  have hF := hF.wI eI35 hs0
  obtain ⟨x36, ex36, hf⟩ := zw_letE hf
  exact (fr_j_X11_termOf_164_10 U hU v0 v2 x36 v4 I35 J  _ hf).tr hF
theorem fr_s_X11_termOf_10 (U : Nat → Prop) {R : zR} (hU : ∀ o j, U o → U (R o j)) (v0 : Nat) (v2 : Int32) (J : zJ) (hv0 : U v0) (s : Int32 × Int32 × zI) (o : (Int32 × Int32 × zI) ⊕ ((zI) ⊕ (zI))) (hf : s_X11_termOf_10 v0 v2 R s = some o) : zw_FR U (zp_X11_termOf_10 s.2.2 J o).1 (s.2.2) (zp_X11_termOf_10 s.2.2 J o).2 (J) := by
  have hF : zw_FR U (s.2.2) (s.2.2) (J) (J) := zw_FR.rf
  unfold s_X11_termOf_10 at hf
  rcases zw_ifE hf with ⟨c3, hf⟩ | ⟨c3, hf⟩
  ·
    cases hf
    exact hF
  ·
    obtain ⟨g4, hf⟩ := zw_gcE hf (by decide)
    obtain ⟨g5, hf⟩ := zw_gcE hf (by decide)
    obtain ⟨i6, hf⟩ := zw_inE hf
    obtain ⟨x7, ex7, hf⟩ := zw_letE hf
    rcases zw_ifE hf with ⟨c8, hf⟩ | ⟨c8, hf⟩
    ·
      obtain ⟨x9, ex9, hf⟩ := zw_letE hf
      obtain ⟨g10, hf⟩ := zw_gcE hf (by decide)
      obtain ⟨i11, hf⟩ := zw_inE hf
      obtain ⟨x12, ex12, hf⟩ := zw_letE hf
      obtain ⟨i13, hf⟩ := zw_inE hf
      obtain ⟨x14, ex14, hf⟩ := zw_letE hf
      rcases zw_ifE hf with ⟨c15, hf⟩ | ⟨c15, hf⟩
      ·
        exact (fr_j_X11_termOf_109_10 U hU v0 v2 x9 s.2.1 x7 x12 x14 s.2.2 J hv0 _ hf).tr hF
      ·
        rcases zw_ifE hf with ⟨c26, hf⟩ | ⟨c26, hf⟩
        ·
          exact (fr_j_X11_termOf_109_10 U hU v0 v2 x9 s.2.1 x7 x12 x14 s.2.2 J hv0 _ hf).tr hF
        ·
          cases hf
          exact hF
    ·
      obtain ⟨g27, hf⟩ := zw_gcE hf (by decide)
      rcases zw_ifE hf with ⟨c28, hf⟩ | ⟨c28, hf⟩
      ·
        obtain ⟨g29, hf⟩ := zw_gcE hf (by decide)
        obtain ⟨g30, hf⟩ := zw_gcE hf (by decide)
        obtain ⟨i31, hf⟩ := zw_inE hf
        obtain ⟨i32, hf⟩ := zw_inE hf
        exact (fr_j_X11_termOf_63_10 U hU v0 v2 s.1 s.2.1 (R v0 50) s.1 (s.2.2 (R v0 49) (Int32.toNatClampNeg (s.2.2 (R v0 46) (Int32.toNatClampNeg s.2.1)))) s.2.2 J (hU _ _ hv0) _ hf).tr hF
      ·
        obtain ⟨g37, hf⟩ := zw_gcE hf (by decide)
        obtain ⟨i38, hf⟩ := zw_inE hf
        exact (fr_j_X11_termOf_63_10 U hU v0 v2 s.1 s.2.1 (R v0 50) s.1 (s.2.2 (R v0 46) (Int32.toNatClampNeg s.2.1)) s.2.2 J (hU _ _ hv0) _ hf).tr hF
theorem fr_s_X11_termOf_10_lp (U : Nat → Prop) {R : zR} (hU : ∀ o j, U o → U (R o j)) (v0 : Nat) (v2 : Int32) (J : zJ) (hv0 : U v0) (n : Nat) (s : Int32 × Int32 × zI) (r : (zI) ⊕ (zI)) (h : zw_it (s_X11_termOf_10 v0 v2 R) n s = some r) : zw_FR U (zp_X11_termOf_10 (s.2.2) (J) (.inr r)).1 (s.2.2) (zp_X11_termOf_10 (s.2.2) (J) (.inr r)).2 (J) :=
  zw_itF (A := fun t t0 : Int32 × Int32 × zI => zw_FR U (t.2.2) (t0.2.2) (J) (J)) (Q := fun (r : (zI) ⊕ (zI)) (t : Int32 × Int32 × zI) => zw_FR U (zp_X11_termOf_10 (t.2.2) (J) (.inr r)).1 (t.2.2) (zp_X11_termOf_10 (t.2.2) (J) (.inr r)).2 (J)) (fun s o h1 => by
    have h2 := fr_s_X11_termOf_10 U hU v0 v2 J hv0 s o h1
    cases o with
    | inl t => exact h2
    | inr r => exact h2) (fun h1 h2 => zw_FR.tr h2 h1) n s r h
theorem fr_X11_termOf (U : Nat → Prop) {R : zR} (hU : ∀ o j, U o → U (R o j)) (v0 : Nat) (v1 : Int32) (v2 : Int32) (I : zI) (J : zJ) (hv0 : U v0) (o : Int32 × zI) (hf : f_X11_termOf v0 v1 v2 I R = some o) : zw_FR U (o.2) (I) (J) (J) := by
  have hF : zw_FR U I I J J := zw_FR.rf
  unfold f_X11_termOf at hf
  obtain ⟨g1, hf⟩ := zw_gcE hf (by decide)
  obtain ⟨I2, eI2, hf⟩ := zw_letE hf
  have hF := hF.wI eI2 hv0
  obtain ⟨q39, hq39, hf⟩ := zw_bdE hf
  have hF := (fr_s_X11_termOf_10_lp U hU v0 v2 J hv0 _ _ _ hq39).tr hF
  rcases q39 with a40 | a41
  ·
    obtain ⟨g42, hf⟩ := zw_gcE hf (by decide)
    obtain ⟨i43, hf⟩ := zw_inE hf
    cases hf
    exact hF
  ·
    obtain ⟨I44, eI44, hf⟩ := zw_letE hf
    have hF := hF.wI eI44 hv0
    cases hf
    exact hF
theorem fr_X11_token (U : Nat → Prop) {R : zR} (hU : ∀ o j, U o → U (R o j)) (v0 : Nat) (v1 : Int32) (v2 : Int32) (v3 : Int32) (v4 : Int64) (I : zI) (J : zJ) (hv0 : U v0) (o : zI × zJ) (hf : f_X11_token v0 v1 v2 v3 v4 I R J = some o) : zw_FR U (o.1) (I) (o.2) (J) := by
  have hF : zw_FR U I I J J := zw_FR.rf
  unfold f_X11_token at hf
  obtain ⟨g1, hf⟩ := zw_gcE hf (by decide)
  obtain ⟨g2, hf⟩ := zw_gcE hf (by decide)
  obtain ⟨i3, hf⟩ := zw_inE hf
  obtain ⟨I4, eI4, hf⟩ := zw_letE hf
  have hF := hF.wI eI4 (hU _ _ hv0)
  obtain ⟨g5, hf⟩ := zw_gcE hf (by decide)
  obtain ⟨i6, hf⟩ := zw_inE hf
  obtain ⟨I7, eI7, hf⟩ := zw_letE hf
  have hF := hF.wI eI7 (hU _ _ hv0)
  obtain ⟨g8, hf⟩ := zw_gcE hf (by decide)
  obtain ⟨i9, hf⟩ := zw_inE hf
  obtain ⟨I10, eI10, hf⟩ := zw_letE hf
  have hF := hF.wI eI10 (hU _ _ hv0)
  obtain ⟨g11, hf⟩ := zw_gcE hf (by decide)
  obtain ⟨i12, hf⟩ := zw_inE hf
  obtain ⟨J13, eJ13, hf⟩ := zw_letE hf
  have hF := hF.wJ eJ13 (hU _ _ hv0)
  obtain ⟨I14, eI14, hf⟩ := zw_letE hf
  have hF := hF.wI eI14 hv0
  cases hf
  exact hF
theorem fr_j_X11_wrong_46 (U : Nat → Prop) {R : zR} (hU : ∀ o j, U o → U (R o j)) (v0 : Nat) (v1 : Int32) (v3 : Int32) (I : zI) (J : zJ) (hv0 : U v0) (o : zI) (hf : j_X11_wrong_46 v0 v1 v3 I R = some o) : zw_FR U (o) (I) (J) (J) := by
  have hF : zw_FR U I I J J := zw_FR.rf
  unfold j_X11_wrong_46 at hf
  obtain ⟨g7, hf⟩ := zw_gcE hf (by decide)
  obtain ⟨I8, eI8, hf⟩ := zw_letE hf
  have hF := hF.wI eI8 hv0
  obtain ⟨I9, eI9, hf⟩ := zw_letE hf
  have hF := hF.wI eI9 hv0
  cases hf
  exact hF
theorem fr_X11_wrong (U : Nat → Prop) {R : zR} (hU : ∀ o j, U o → U (R o j)) (v0 : Nat) (v1 : Int32) (v2 : Int32) (I : zI) (J : zJ) (hv0 : U v0) (o : zI) (hf : f_X11_wrong v0 v1 v2 I R = some o) : zw_FR U (o) (I) (J) (J) := by
  have hF : zw_FR U I I J J := zw_FR.rf
  unfold f_X11_wrong at hf
  obtain ⟨g1, hf⟩ := zw_gcE hf (by decide)
  obtain ⟨g2, hf⟩ := zw_gcE hf (by decide)
  obtain ⟨i3, hf⟩ := zw_inE hf
  obtain ⟨x4, ex4, hf⟩ := zw_letE hf
  rcases zw_ifE hf with ⟨c5, hf⟩ | ⟨c5, hf⟩
  ·
    cases hf
    exact hF
  ·
    rcases zw_ifE hf with ⟨c6, hf⟩ | ⟨c6, hf⟩
    ·
      exact (fr_j_X11_wrong_46 U hU v0 v1 x4 I J hv0 _ hf).tr hF
    ·
      rcases zw_ifE hf with ⟨c10, hf⟩ | ⟨c10, hf⟩
      ·
        cases hf
        exact hF
      ·
        rcases zw_ifE hf with ⟨c11, hf⟩ | ⟨c11, hf⟩
        ·
          exact (fr_j_X11_wrong_46 U hU v0 v1 x4 I J hv0 _ hf).tr hF
        ·
          rcases zw_ifE hf with ⟨c12, hf⟩ | ⟨c12, hf⟩
          ·
            exact (fr_j_X11_wrong_46 U hU v0 v1 x4 I J hv0 _ hf).tr hF
          ·
            cases hf
            exact hF
theorem fr_X1_addCode (U : Nat → Prop) {R : zR} (hU : ∀ o j, U o → U (R o j)) (v0 : Nat) (v1 : Int32) (v2 : Int32) (I : zI) (J : zJ) (hv0 : U v0) (o : zI) (hf : f_X1_addCode v0 v1 v2 I R = some o) : zw_FR U (o) (I) (J) (J) := by
  have hF : zw_FR U I I J J := zw_FR.rf
  unfold f_X1_addCode at hf
  obtain ⟨g1, hf⟩ := zw_gcE hf (by decide)
  rcases zw_ifE hf with ⟨c2, hf⟩ | ⟨c2, hf⟩
  ·
    cases hf
    exact hF
  ·
    obtain ⟨g3, hf⟩ := zw_gcE hf (by decide)
    obtain ⟨i4, hf⟩ := zw_inE hf
    obtain ⟨I5, eI5, hf⟩ := zw_letE hf
    have hF := hF.wI eI5 (hU _ _ hv0)
    obtain ⟨g6, hf⟩ := zw_gcE hf (by decide)
    obtain ⟨i7, hf⟩ := zw_inE hf
    obtain ⟨I8, eI8, hf⟩ := zw_letE hf
    have hF := hF.wI eI8 (hU _ _ hv0)
    obtain ⟨I9, eI9, hf⟩ := zw_letE hf
    have hF := hF.wI eI9 hv0
    cases hf
    exact hF
theorem fr_X1_addGrade (U : Nat → Prop) {R : zR} (hU : ∀ o j, U o → U (R o j)) (v0 : Nat) (I : zI) (J : zJ) (hv0 : U v0) (o : Nat × zI) (hf : f_X1_addGrade v0 I R = some o) : zw_FR U (o.2) (I) (J) (J) ∧ U (o.1) := by
  have hF : zw_FR U I I J J := zw_FR.rf
  unfold f_X1_addGrade at hf
  obtain ⟨g1, hf⟩ := zw_gcE hf (by decide)
  obtain ⟨g2, hf⟩ := zw_gcE hf (by decide)
  obtain ⟨i3, hf⟩ := zw_inE hf
  obtain ⟨g4, hf⟩ := zw_gcE hf (by decide)
  obtain ⟨I5, eI5, hf⟩ := zw_letE hf
  have hF := hF.wI eI5 hv0
  cases hf
  exact ⟨hF, (hU _ _ (hU _ _ hv0))⟩
def zp_X1_addName_2 (I : zI) (J : zJ) (o : (Int32) ⊕ ((Unit) ⊕ (Unit))) : zI × zJ := match o with | .inl t => (I, J) | .inr r => (match r with | .inl r0 => (I, J) | .inr t0 => (I, J))
theorem fr_X1_addName (U : Nat → Prop) {R : zR} (hU : ∀ o j, U o → U (R o j)) (v0 : Nat) (v1 : Int64) (I : zI) (J : zJ) (hv0 : U v0) (o : Int32 × zI × zJ) (hf : f_X1_addName v0 v1 I R J = some o) : zw_FR U (o.2.1) (I) (o.2.2) (J) := by
  have hF : zw_FR U I I J J := zw_FR.rf
  unfold f_X1_addName at hf
  obtain ⟨q7, hq7, hf⟩ := zw_bdE hf
  rcases q7 with a8 | a9
  ·
    obtain ⟨g10, hf⟩ := zw_gcE hf (by decide)
    rcases zw_ifE hf with ⟨c11, hf⟩ | ⟨c11, hf⟩
    ·
      cases hf
      exact hF
    ·
      obtain ⟨g12, hf⟩ := zw_gcE hf (by decide)
      obtain ⟨i13, hf⟩ := zw_inE hf
      obtain ⟨J14, eJ14, hf⟩ := zw_letE hf
      have hF := hF.wJ eJ14 (hU _ _ hv0)
      obtain ⟨I15, eI15, hf⟩ := zw_letE hf
      have hF := hF.wI eI15 hv0
      cases hf
      exact hF
  ·
    cases hf
    exact hF
theorem fr_X1_addPrice (U : Nat → Prop) {R : zR} (hU : ∀ o j, U o → U (R o j)) (v0 : Nat) (I : zI) (J : zJ) (hv0 : U v0) (o : Nat × zI) (hf : f_X1_addPrice v0 I R = some o) : zw_FR U (o.2) (I) (J) (J) ∧ U (o.1) := by
  have hF : zw_FR U I I J J := zw_FR.rf
  unfold f_X1_addPrice at hf
  obtain ⟨g1, hf⟩ := zw_gcE hf (by decide)
  obtain ⟨g2, hf⟩ := zw_gcE hf (by decide)
  obtain ⟨i3, hf⟩ := zw_inE hf
  obtain ⟨g4, hf⟩ := zw_gcE hf (by decide)
  obtain ⟨I5, eI5, hf⟩ := zw_letE hf
  have hF := hF.wI eI5 hv0
  cases hf
  exact ⟨hF, (hU _ _ (hU _ _ hv0))⟩
theorem fr_X1_addStuff (U : Nat → Prop) {R : zR} (hU : ∀ o j, U o → U (R o j)) (v0 : Nat) (I : zI) (J : zJ) (hv0 : U v0) (o : Nat × zI) (hf : f_X1_addStuff v0 I R = some o) : zw_FR U (o.2) (I) (J) (J) ∧ U (o.1) := by
  have hF : zw_FR U I I J J := zw_FR.rf
  unfold f_X1_addStuff at hf
  obtain ⟨g1, hf⟩ := zw_gcE hf (by decide)
  obtain ⟨g2, hf⟩ := zw_gcE hf (by decide)
  obtain ⟨i3, hf⟩ := zw_inE hf
  obtain ⟨g4, hf⟩ := zw_gcE hf (by decide)
  obtain ⟨I5, eI5, hf⟩ := zw_letE hf
  have hF := hF.wI eI5 hv0
  obtain ⟨I6, eI6, hf⟩ := zw_letE hf
  have hF := hF.wI eI6 (hU _ _ (hU _ _ hv0))
  cases hf
  exact ⟨hF, (hU _ _ (hU _ _ hv0))⟩
theorem fr_X1_empty (U : Nat → Prop) {R : zR} (hU : ∀ o j, U o → U (R o j)) (v0 : Nat) (I : zI) (J : zJ) (hv0 : U v0) (o : zI) (hf : f_X1_empty v0 I = some o) : zw_FR U (o) (I) (J) (J) := by
  have hF : zw_FR U I I J J := zw_FR.rf
  unfold f_X1_empty at hf
  obtain ⟨g1, hf⟩ := zw_gcE hf (by decide)
  obtain ⟨I2, eI2, hf⟩ := zw_letE hf
  have hF := hF.wI eI2 hv0
  obtain ⟨I3, eI3, hf⟩ := zw_letE hf
  have hF := hF.wI eI3 hv0
  obtain ⟨I4, eI4, hf⟩ := zw_letE hf
  have hF := hF.wI eI4 hv0
  obtain ⟨I5, eI5, hf⟩ := zw_letE hf
  have hF := hF.wI eI5 hv0
  obtain ⟨I6, eI6, hf⟩ := zw_letE hf
  have hF := hF.wI eI6 hv0
  obtain ⟨I7, eI7, hf⟩ := zw_letE hf
  have hF := hF.wI eI7 hv0
  obtain ⟨I8, eI8, hf⟩ := zw_letE hf
  have hF := hF.wI eI8 hv0
  cases hf
  exact hF
theorem fr_j_X2_goOut_44 (U : Nat → Prop) {R : zR} (hU : ∀ o j, U o → U (R o j)) (v0 : Nat) (v2 : Int32) (I : zI) (J : zJ) (hv0 : U v0) (o : zI) (hf : j_X2_goOut_44 v0 v2 I R = some o) : zw_FR U (o) (I) (J) (J) := by
  have hF : zw_FR U I I J J := zw_FR.rf
  unfold j_X2_goOut_44 at hf
  obtain ⟨g8, hf⟩ := zw_gcE hf (by decide)
  obtain ⟨I9, eI9, hf⟩ := zw_letE hf
  have hF := hF.wI eI9 hv0
  cases hf
  exact hF
theorem fr_X2_goOut (U : Nat → Prop) {R : zR} (hU : ∀ o j, U o → U (R o j)) (v0 : Nat) (v1 : Int32) (I : zI) (J : zJ) (hv0 : U v0) (o : zI) (hf : f_X2_goOut v0 v1 I R = some o) : zw_FR U (o) (I) (J) (J) := by
  have hF : zw_FR U I I J J := zw_FR.rf
  unfold f_X2_goOut at hf
  obtain ⟨g1, hf⟩ := zw_gcE hf (by decide)
  obtain ⟨x2, ex2, hf⟩ := zw_letE hf
  obtain ⟨g3, hf⟩ := zw_gcE hf (by decide)
  obtain ⟨i4, hf⟩ := zw_inE hf
  obtain ⟨i5, hf⟩ := zw_inE hf
  obtain ⟨I6, eI6, hf⟩ := zw_letE hf
  have hF := hF.wI eI6 (hU _ _ hv0)
  rcases zw_ifE hf with ⟨c7, hf⟩ | ⟨c7, hf⟩
  ·
    exact (fr_j_X2_goOut_44 U hU v0 x2 I6 J hv0 _ hf).tr hF
  ·
    obtain ⟨g10, hf⟩ := zw_gcE hf (by decide)
    obtain ⟨i11, hf⟩ := zw_inE hf
    obtain ⟨i12, hf⟩ := zw_inE hf
    obtain ⟨I13, eI13, hf⟩ := zw_letE hf
    have hF := hF.wI eI13 (hU _ _ hv0)
    exact (fr_j_X2_goOut_44 U hU v0 x2 I13 J hv0 _ hf).tr hF
theorem fr_X3_noteLater (U : Nat → Prop) {R : zR} (hU : ∀ o j, U o → U (R o j)) (v0 : Nat) (v1 : Int32) (v2 : Int32) (I : zI) (J : zJ) (hv0 : U v0) (o : zI) (hf : f_X3_noteLater v0 v1 v2 I = some o) : zw_FR U (o) (I) (J) (J) := by
  have hF : zw_FR U I I J J := zw_FR.rf
  unfold f_X3_noteLater at hf
  obtain ⟨g1, hf⟩ := zw_gcE hf (by decide)
  rcases zw_ifE hf with ⟨c2, hf⟩ | ⟨c2, hf⟩
  ·
    cases hf
    exact hF
  ·
    obtain ⟨I3, eI3, hf⟩ := zw_letE hf
    have hF := hF.wI eI3 hv0
    obtain ⟨I4, eI4, hf⟩ := zw_letE hf
    have hF := hF.wI eI4 hv0
    cases hf
    exact hF
theorem fr_j_X3_take_49 (U : Nat → Prop) {R : zR} (hU : ∀ o j, U o → U (R o j)) (v0 : Nat) (v1 : Nat) (I : zI) (J : zJ) (hv0 : U v0) (o : Int32 × zI) (hf : j_X3_take_49 v0 v1 I R = some o) : zw_FR U (o.2) (I) (J) (J) := by
  have hF : zw_FR U I I J J := zw_FR.rf
  unfold j_X3_take_49 at hf
  obtain ⟨g10, hf⟩ := zw_gcE hf (by decide)
  rcases zw_ifE hf with ⟨c11, hf⟩ | ⟨c11, hf⟩
  ·
    obtain ⟨I12, eI12, hf⟩ := zw_letE hf
    have hF := hF.wI eI12 hv0
    cases hf
    exact hF
  ·
    obtain ⟨g13, hf⟩ := zw_gcE hf (by decide)
    obtain ⟨g14, hf⟩ := zw_gcE hf (by decide)
    obtain ⟨i15, hf⟩ := zw_inE hf
    obtain ⟨I16, eI16, hf⟩ := zw_letE hf
    have hF := hF.wI eI16 hv0
    cases hf
    exact hF
theorem fr_j_X3_take_44 (U : Nat → Prop) {R : zR} (hU : ∀ o j, U o → U (R o j)) (v0 : Nat) (v1 : Nat) (I : zI) (J : zJ) (hv0 : U v0) (o : Int32 × zI) (hf : j_X3_take_44 v0 v1 I R = some o) : zw_FR U (o.2) (I) (J) (J) := by
  have hF : zw_FR U I I J J := zw_FR.rf
  unfold j_X3_take_44 at hf
  obtain ⟨g8, hf⟩ := zw_gcE hf (by decide)
  obtain ⟨I9, eI9, hf⟩ := zw_letE hf
  have hF := hF.wI eI9 hv0
  exact (fr_j_X3_take_49 U hU v0 v1 I9 J hv0 _ hf).tr hF
theorem fr_X3_take (U : Nat → Prop) {R : zR} (hU : ∀ o j, U o → U (R o j)) (v0 : Nat) (v1 : Nat) (v2 : Int32) (v3 : Int32) (I : zI) (J : zJ) (hv0 : U v0) (o : Int32 × zI) (hf : f_X3_take v0 v1 v2 v3 I R = some o) : zw_FR U (o.2) (I) (J) (J) := by
  have hF : zw_FR U I I J J := zw_FR.rf
  unfold f_X3_take at hf
  obtain ⟨g1, hf⟩ := zw_gcE hf (by decide)
  rcases zw_ifE hf with ⟨c2, hf⟩ | ⟨c2, hf⟩
  ·
    obtain ⟨g3, hf⟩ := zw_gcE hf (by decide)
    obtain ⟨g4, hf⟩ := zw_gcE hf (by decide)
    obtain ⟨i5, hf⟩ := zw_inE hf
    rcases zw_ifE hf with ⟨c6, hf⟩ | ⟨c6, hf⟩
    ·
      rcases zw_ifE hf with ⟨c7, hf⟩ | ⟨c7, hf⟩
      ·
        exact (fr_j_X3_take_44 U hU v0 v1 I J hv0 _ hf).tr hF
      ·
        rcases zw_ifE hf with ⟨c17, hf⟩ | ⟨c17, hf⟩
        ·
          exact (fr_j_X3_take_49 U hU v0 v1 I J hv0 _ hf).tr hF
        ·
          exact (fr_j_X3_take_44 U hU v0 v1 I J hv0 _ hf).tr hF
    ·
      obtain ⟨I18, eI18, hf⟩ := zw_letE hf
      have hF := hF.wI eI18 hv0
      exact (fr_j_X3_take_49 U hU v0 v1 I18 J hv0 _ hf).tr hF
  ·
    cases hf
    exact hF
theorem fr_X4_compared (U : Nat → Prop) {R : zR} (hU : ∀ o j, U o → U (R o j)) (v0 : Nat) (v1 : Int32) (v2 : Int32) (v3 : Int32) (I : zI) (J : zJ) (hv0 : U v0) (o : Int32 × zI) (hf : f_X4_compared v0 v1 v2 v3 I = some o) : zw_FR U (o.2) (I) (J) (J) := by
  have hF : zw_FR U I I J J := zw_FR.rf
  unfold f_X4_compared at hf
  obtain ⟨g1, hf⟩ := zw_gcE hf (by decide)
  rcases zw_ifE hf with ⟨c2, hf⟩ | ⟨c2, hf⟩
  ·
    rcases zw_ifE hf with ⟨c3, hf⟩ | ⟨c3, hf⟩
    ·
      rcases zw_ifE hf with ⟨c4, hf⟩ | ⟨c4, hf⟩
      ·
        cases hf
        exact hF
      ·
        cases hf
        exact hF
    ·
      rcases zw_ifE hf with ⟨c5, hf⟩ | ⟨c5, hf⟩
      ·
        rcases zw_ifE hf with ⟨c6, hf⟩ | ⟨c6, hf⟩
        ·
          cases hf
          exact hF
        ·
          cases hf
          exact hF
      ·
        rcases zw_ifE hf with ⟨c7, hf⟩ | ⟨c7, hf⟩
        ·
          rcases zw_ifE hf with ⟨c8, hf⟩ | ⟨c8, hf⟩
          ·
            cases hf
            exact hF
          ·
            cases hf
            exact hF
        ·
          rcases zw_ifE hf with ⟨c9, hf⟩ | ⟨c9, hf⟩
          ·
            cases hf
            exact hF
          ·
            cases hf
            exact hF
  ·
    obtain ⟨I10, eI10, hf⟩ := zw_letE hf
    have hF := hF.wI eI10 hv0
    cases hf
    exact hF
theorem fr_X4_divided (U : Nat → Prop) {R : zR} (hU : ∀ o j, U o → U (R o j)) (v0 : Nat) (v1 : Int32) (v2 : Int32) (I : zI) (J : zJ) (hv0 : U v0) (o : Int32 × zI) (hf : f_X4_divided v0 v1 v2 I = some o) : zw_FR U (o.2) (I) (J) (J) := by
  have hF : zw_FR U I I J J := zw_FR.rf
  unfold f_X4_divided at hf
  rcases zw_ifE hf with ⟨c1, hf⟩ | ⟨c1, hf⟩
  ·
    obtain ⟨n2, hf⟩ := zw_n0E hf
    cases hf
    exact hF
  ·
    obtain ⟨g3, hf⟩ := zw_gcE hf (by decide)
    obtain ⟨I4, eI4, hf⟩ := zw_letE hf
    have hF := hF.wI eI4 hv0
    cases hf
    exact hF
theorem fr_X4_pop (U : Nat → Prop) {R : zR} (hU : ∀ o j, U o → U (R o j)) (v0 : Nat) (I : zI) (J : zJ) (hv0 : U v0) (o : Int32 × zI) (hf : f_X4_pop v0 I R = some o) : zw_FR U (o.2) (I) (J) (J) := by
  have hF : zw_FR U I I J J := zw_FR.rf
  unfold f_X4_pop at hf
  obtain ⟨g1, hf⟩ := zw_gcE hf (by decide)
  rcases zw_ifE hf with ⟨c2, hf⟩ | ⟨c2, hf⟩
  ·
    obtain ⟨I3, eI3, hf⟩ := zw_letE hf
    have hF := hF.wI eI3 hv0
    obtain ⟨g4, hf⟩ := zw_gcE hf (by decide)
    obtain ⟨i5, hf⟩ := zw_inE hf
    cases hf
    exact hF
  ·
    cases hf
    exact hF
theorem fr_X4_push (U : Nat → Prop) {R : zR} (hU : ∀ o j, U o → U (R o j)) (v0 : Nat) (v1 : Int32) (I : zI) (J : zJ) (hv0 : U v0) (o : zI) (hf : f_X4_push v0 v1 I R = some o) : zw_FR U (o) (I) (J) (J) := by
  have hF : zw_FR U I I J J := zw_FR.rf
  unfold f_X4_push at hf
  obtain ⟨g1, hf⟩ := zw_gcE hf (by decide)
  obtain ⟨g2, hf⟩ := zw_gcE hf (by decide)
  rcases zw_ifE hf with ⟨c3, hf⟩ | ⟨c3, hf⟩
  ·
    cases hf
    exact hF
  ·
    obtain ⟨i4, hf⟩ := zw_inE hf
    obtain ⟨I5, eI5, hf⟩ := zw_letE hf
    have hF := hF.wI eI5 (hU _ _ hv0)
    obtain ⟨I6, eI6, hf⟩ := zw_letE hf
    have hF := hF.wI eI6 hv0
    cases hf
    exact hF
theorem fr_X5_begin (U : Nat → Prop) {R : zR} (hU : ∀ o j, U o → U (R o j)) (v0 : Nat) (v1 : Int32) (I : zI) (J : zJ) (hv0 : U v0) (o : zI) (hf : f_X5_begin v0 v1 I = some o) : zw_FR U (o) (I) (J) (J) := by
  have hF : zw_FR U I I J J := zw_FR.rf
  unfold f_X5_begin at hf
  obtain ⟨g1, hf⟩ := zw_gcE hf (by decide)
  obtain ⟨I2, eI2, hf⟩ := zw_letE hf
  have hF := hF.wI eI2 hv0
  obtain ⟨I3, eI3, hf⟩ := zw_letE hf
  have hF := hF.wI eI3 hv0
  obtain ⟨I4, eI4, hf⟩ := zw_letE hf
  have hF := hF.wI eI4 hv0
  cases hf
  exact hF
theorem fr_X6_setHead (U : Nat → Prop) {R : zR} (hU : ∀ o j, U o → U (R o j)) (v0 : Nat) (v1 : Int32) (v2 : Int32) (I : zI) (J : zJ) (hv0 : U v0) (o : zI) (hf : f_X6_setHead v0 v1 v2 I = some o) : zw_FR U (o) (I) (J) (J) := by
  have hF : zw_FR U I I J J := zw_FR.rf
  unfold f_X6_setHead at hf
  obtain ⟨g1, hf⟩ := zw_gcE hf (by decide)
  obtain ⟨I2, eI2, hf⟩ := zw_letE hf
  have hF := hF.wI eI2 hv0
  obtain ⟨I3, eI3, hf⟩ := zw_letE hf
  have hF := hF.wI eI3 hv0
  cases hf
  exact hF
theorem fr_X6_setLamps (U : Nat → Prop) {R : zR} (hU : ∀ o j, U o → U (R o j)) (v0 : Nat) (v1 : Int32) (v2 : Int32) (v3 : Int32) (I : zI) (J : zJ) (hv0 : U v0) (o : zI) (hf : f_X6_setLamps v0 v1 v2 v3 I = some o) : zw_FR U (o) (I) (J) (J) := by
  have hF : zw_FR U I I J J := zw_FR.rf
  unfold f_X6_setLamps at hf
  obtain ⟨g1, hf⟩ := zw_gcE hf (by decide)
  obtain ⟨I2, eI2, hf⟩ := zw_letE hf
  have hF := hF.wI eI2 hv0
  obtain ⟨I3, eI3, hf⟩ := zw_letE hf
  have hF := hF.wI eI3 hv0
  obtain ⟨I4, eI4, hf⟩ := zw_letE hf
  have hF := hF.wI eI4 hv0
  cases hf
  exact hF
def zp_X7_setShare_3 (I : zI) (J : zJ) (o : (Int32 × zI) ⊕ (zI)) : zI × zJ := match o with | .inl t => (t.2, J) | .inr r => (r, J)
theorem fr_s_X7_setShare_3 (U : Nat → Prop) {R : zR} (hU : ∀ o j, U o → U (R o j)) (v0 : Nat) (v2 : Int32) (v3 : Int32) (J : zJ) (hv0 : U v0) (s : Int32 × zI) (o : (Int32 × zI) ⊕ (zI)) (hf : s_X7_setShare_3 v0 v2 v3 R s = some o) : zw_FR U (zp_X7_setShare_3 s.2 J o).1 (s.2) (zp_X7_setShare_3 s.2 J o).2 (J) := by
  have hF : zw_FR U (s.2) (s.2) (J) (J) := zw_FR.rf
  unfold s_X7_setShare_3 at hf
  rcases zw_ifE hf with ⟨c1, hf⟩ | ⟨c1, hf⟩
  ·
    cases hf
    exact hF
  ·
    obtain ⟨g2, hf⟩ := zw_gcE hf (by decide)
    obtain ⟨g3, hf⟩ := zw_gcE hf (by decide)
    obtain ⟨i4, hf⟩ := zw_inE hf
    obtain ⟨I5, eI5, hf⟩ := zw_letE hf
    have hF := hF.wI eI5 (hU _ _ hv0)
    obtain ⟨g6, hf⟩ := zw_gcE hf (by decide)
    obtain ⟨i7, hf⟩ := zw_inE hf
    obtain ⟨I8, eI8, hf⟩ := zw_letE hf
    have hF := hF.wI eI8 (hU _ _ hv0)
    obtain ⟨x9, ex9, hf⟩ := zw_letE hf
    cases hf
    exact hF
theorem fr_s_X7_setShare_3_lp (U : Nat → Prop) {R : zR} (hU : ∀ o j, U o → U (R o j)) (v0 : Nat) (v2 : Int32) (v3 : Int32) (J : zJ) (hv0 : U v0) (n : Nat) (s : Int32 × zI) (r : zI) (h : zw_it (s_X7_setShare_3 v0 v2 v3 R) n s = some r) : zw_FR U (zp_X7_setShare_3 (s.2) (J) (.inr r)).1 (s.2) (zp_X7_setShare_3 (s.2) (J) (.inr r)).2 (J) :=
  zw_itF (A := fun t t0 : Int32 × zI => zw_FR U (t.2) (t0.2) (J) (J)) (Q := fun (r : zI) (t : Int32 × zI) => zw_FR U (zp_X7_setShare_3 (t.2) (J) (.inr r)).1 (t.2) (zp_X7_setShare_3 (t.2) (J) (.inr r)).2 (J)) (fun s o h1 => by
    have h2 := fr_s_X7_setShare_3 U hU v0 v2 v3 J hv0 s o h1
    cases o with
    | inl t => exact h2
    | inr r => exact h2) (fun h1 h2 => zw_FR.tr h2 h1) n s r h
theorem fr_X7_setShare (U : Nat → Prop) {R : zR} (hU : ∀ o j, U o → U (R o j)) (v0 : Nat) (v1 : Int32) (v2 : Int32) (v3 : Int32) (I : zI) (J : zJ) (hv0 : U v0) (o : zI) (hf : f_X7_setShare v0 v1 v2 v3 I R = some o) : zw_FR U (o) (I) (J) (J) := by
  have hF : zw_FR U I I J J := zw_FR.rf
  unfold f_X7_setShare at hf
  obtain ⟨q10, hq10, hf⟩ := zw_bdE hf
  have hF := (fr_s_X7_setShare_3_lp U hU v0 v2 v3 J hv0 _ _ _ hq10).tr hF
  cases hf
  exact hF
def zp_X8_append_3 (I : zI) (J : zJ) (o : (Int32 × zI) ⊕ (zI)) : zI × zJ := match o with | .inl t => (t.2, J) | .inr r => (r, J)
theorem fr_s_X8_append_3 (U : Nat → Prop) {R : zR} (hU : ∀ o j, U o → U (R o j)) (v0 : Nat) (v1 : Int32) (J : zJ) (hv0 : U v0) (s : Int32 × zI) (o : (Int32 × zI) ⊕ (zI)) (hf : s_X8_append_3 v0 v1 R s = some o) : zw_FR U (zp_X8_append_3 s.2 J o).1 (s.2) (zp_X8_append_3 s.2 J o).2 (J) := by
  have hF : zw_FR U (s.2) (s.2) (J) (J) := zw_FR.rf
  unfold s_X8_append_3 at hf
  rcases zw_ifE hf with ⟨c1, hf⟩ | ⟨c1, hf⟩
  ·
    cases hf
    exact hF
  ·
    obtain ⟨g2, hf⟩ := zw_gcE hf (by decide)
    rcases zw_ifE hf with ⟨c3, hf⟩ | ⟨c3, hf⟩
    ·
      cases hf
      exact hF
    ·
      obtain ⟨g4, hf⟩ := zw_gcE hf (by decide)
      obtain ⟨i5, hf⟩ := zw_inE hf
      obtain ⟨I6, eI6, hf⟩ := zw_letE hf
      have hF := hF.wI eI6 (hU _ _ hv0)
      obtain ⟨I7, eI7, hf⟩ := zw_letE hf
      have hF := hF.wI eI7 hv0
      obtain ⟨x8, ex8, hf⟩ := zw_letE hf
      cases hf
      exact hF
theorem fr_s_X8_append_3_lp (U : Nat → Prop) {R : zR} (hU : ∀ o j, U o → U (R o j)) (v0 : Nat) (v1 : Int32) (J : zJ) (hv0 : U v0) (n : Nat) (s : Int32 × zI) (r : zI) (h : zw_it (s_X8_append_3 v0 v1 R) n s = some r) : zw_FR U (zp_X8_append_3 (s.2) (J) (.inr r)).1 (s.2) (zp_X8_append_3 (s.2) (J) (.inr r)).2 (J) :=
  zw_itF (A := fun t t0 : Int32 × zI => zw_FR U (t.2) (t0.2) (J) (J)) (Q := fun (r : zI) (t : Int32 × zI) => zw_FR U (zp_X8_append_3 (t.2) (J) (.inr r)).1 (t.2) (zp_X8_append_3 (t.2) (J) (.inr r)).2 (J)) (fun s o h1 => by
    have h2 := fr_s_X8_append_3 U hU v0 v1 J hv0 s o h1
    cases o with
    | inl t => exact h2
    | inr r => exact h2) (fun h1 h2 => zw_FR.tr h2 h1) n s r h
theorem fr_X8_append (U : Nat → Prop) {R : zR} (hU : ∀ o j, U o → U (R o j)) (v0 : Nat) (v1 : Int32) (I : zI) (J : zJ) (hv0 : U v0) (o : zI) (hf : f_X8_append v0 v1 I R = some o) : zw_FR U (o) (I) (J) (J) := by
  have hF : zw_FR U I I J J := zw_FR.rf
  unfold f_X8_append at hf
  obtain ⟨q9, hq9, hf⟩ := zw_bdE hf
  have hF := (fr_s_X8_append_3_lp U hU v0 v1 J hv0 _ _ _ hq9).tr hF
  cases hf
  exact hF
theorem fr_X9_addTest (U : Nat → Prop) {R : zR} (hU : ∀ o j, U o → U (R o j)) (v0 : Nat) (v1 : Int32) (v2 : Int32) (v3 : Int32) (I : zI) (J : zJ) (hv0 : U v0) (o : Int32 × zI) (hf : f_X9_addTest v0 v1 v2 v3 I R = some o) : zw_FR U (o.2) (I) (J) (J) := by
  have hF : zw_FR U I I J J := zw_FR.rf
  unfold f_X9_addTest at hf
  obtain ⟨g1, hf⟩ := zw_gcE hf (by decide)
  rcases zw_ifE hf with ⟨c2, hf⟩ | ⟨c2, hf⟩
  ·
    obtain ⟨g3, hf⟩ := zw_gcE hf (by decide)
    obtain ⟨i4, hf⟩ := zw_inE hf
    obtain ⟨I5, eI5, hf⟩ := zw_letE hf
    have hF := hF.wI eI5 (hU _ _ hv0)
    obtain ⟨g6, hf⟩ := zw_gcE hf (by decide)
    obtain ⟨i7, hf⟩ := zw_inE hf
    obtain ⟨I8, eI8, hf⟩ := zw_letE hf
    have hF := hF.wI eI8 (hU _ _ hv0)
    obtain ⟨g9, hf⟩ := zw_gcE hf (by decide)
    obtain ⟨i10, hf⟩ := zw_inE hf
    obtain ⟨I11, eI11, hf⟩ := zw_letE hf
    have hF := hF.wI eI11 (hU _ _ hv0)
    obtain ⟨g12, hf⟩ := zw_gcE hf (by decide)
    obtain ⟨i13, hf⟩ := zw_inE hf
    obtain ⟨I14, eI14, hf⟩ := zw_letE hf
    have hF := hF.wI eI14 (hU _ _ hv0)
    obtain ⟨I15, eI15, hf⟩ := zw_letE hf
    have hF := hF.wI eI15 hv0
    cases hf
    exact hF
  ·
    cases hf
    exact hF
theorem fr_X9_addVoid (U : Nat → Prop) {R : zR} (hU : ∀ o j, U o → U (R o j)) (v0 : Nat) (v1 : Int32) (I : zI) (J : zJ) (hv0 : U v0) (o : Int32 × zI) (hf : f_X9_addVoid v0 v1 I R = some o) : zw_FR U (o.2) (I) (J) (J) := by
  have hF : zw_FR U I I J J := zw_FR.rf
  unfold f_X9_addVoid at hf
  obtain ⟨g1, hf⟩ := zw_gcE hf (by decide)
  rcases zw_ifE hf with ⟨c2, hf⟩ | ⟨c2, hf⟩
  ·
    cases hf
    exact hF
  ·
    rcases zw_ifE hf with ⟨c3, hf⟩ | ⟨c3, hf⟩
    ·
      cases hf
      exact hF
    ·
      rcases zw_ifE hf with ⟨c4, hf⟩ | ⟨c4, hf⟩
      ·
        cases hf
        exact hF
      ·
        obtain ⟨g5, hf⟩ := zw_gcE hf (by decide)
        obtain ⟨i6, hf⟩ := zw_inE hf
        rcases zw_ifE hf with ⟨c7, hf⟩ | ⟨c7, hf⟩
        ·
          obtain ⟨i8, hf⟩ := zw_inE hf
          obtain ⟨I9, eI9, hf⟩ := zw_letE hf
          have hF := hF.wI eI9 (hU _ _ hv0)
          obtain ⟨I10, eI10, hf⟩ := zw_letE hf
          have hF := hF.wI eI10 hv0
          cases hf
          exact hF
        ·
          cases hf
          exact hF
def zp_X0_measureUp_28 (I : zI) (J : zJ) (o : (Int32 × zI) ⊕ (zI)) : zI × zJ := match o with | .inl t => (t.2, J) | .inr r => (r, J)
def zp_X0_measureUp_38 (I : zI) (J : zJ) (o : (Int32 × zI) ⊕ (zI)) : zI × zJ := match o with | .inl t => (t.2, J) | .inr r => (r, J)
theorem fr_j_X0_measureUp_112_38 (U : Nat → Prop) {R : zR} (hU : ∀ o j, U o → U (R o j)) (v0 : Nat) (v1 : Int32) (v2 : Int32) (I : zI) (J : zJ)  (o : (Int32 × zI) ⊕ (zI)) (hf : j_X0_measureUp_112_38 v0 v1 v2 I R = some o) : zw_FR U (zp_X0_measureUp_38 I J o).1 (I) (zp_X0_measureUp_38 I J o).2 (J) := by
  have hF : zw_FR U I I J J := zw_FR.rf
  unfold j_X0_measureUp_112_38 at hf
  obtain ⟨x13, ex13, hf⟩ := zw_letE hf
  cases hf
  exact hF
theorem fr_s_X0_measureUp_38 (U : Nat → Prop) {R : zR} (hU : ∀ o j, U o → U (R o j)) (v0 : Nat) (v1 : Int32) (J : zJ) (hv0 : U v0) (s : Int32 × zI) (o : (Int32 × zI) ⊕ (zI)) (hf : s_X0_measureUp_38 v0 v1 R s = some o) : zw_FR U (zp_X0_measureUp_38 s.2 J o).1 (s.2) (zp_X0_measureUp_38 s.2 J o).2 (J) := by
  have hF : zw_FR U (s.2) (s.2) (J) (J) := zw_FR.rf
  unfold s_X0_measureUp_38 at hf
  obtain ⟨g9, hf⟩ := zw_gcE hf (by decide)
  rcases zw_ifE hf with ⟨c10, hf⟩ | ⟨c10, hf⟩
  ·
    cases hf
    exact hF
  ·
    obtain ⟨q11, hq11, hf⟩ := zw_bdE hf
    rcases zw_ifE hf with ⟨c12, hf⟩ | ⟨c12, hf⟩
    ·
      exact (fr_j_X0_measureUp_112_38 U hU v0 v1 s.1 s.2 J  _ hf).tr hF
    ·
      obtain ⟨i14, hf⟩ := zw_inE hf
      obtain ⟨I15, eI15, hf⟩ := zw_letE hf
      have hF := hF.wI eI15 hv0
      obtain ⟨I16, eI16, hf⟩ := zw_letE hf
      have hF := hF.wI eI16 hv0
      obtain ⟨x17, ex17, hf⟩ := zw_letE hf
      obtain ⟨I18, eI18, hf⟩ := zw_letE hf
      have hF := hF.wI eI18 hv0
      obtain ⟨x19, ex19, hf⟩ := zw_letE hf
      obtain ⟨I20, eI20, hf⟩ := zw_letE hf
      have hF := hF.wI eI20 hv0
      obtain ⟨I21, eI21, hf⟩ := zw_letE hf
      have hF := hF.wI eI21 hv0
      exact (fr_j_X0_measureUp_112_38 U hU v0 v1 s.1 I21 J  _ hf).tr hF
theorem fr_s_X0_measureUp_38_lp (U : Nat → Prop) {R : zR} (hU : ∀ o j, U o → U (R o j)) (v0 : Nat) (v1 : Int32) (J : zJ) (hv0 : U v0) (n : Nat) (s : Int32 × zI) (r : zI) (h : zw_it (s_X0_measureUp_38 v0 v1 R) n s = some r) : zw_FR U (zp_X0_measureUp_38 (s.2) (J) (.inr r)).1 (s.2) (zp_X0_measureUp_38 (s.2) (J) (.inr r)).2 (J) :=
  zw_itF (A := fun t t0 : Int32 × zI => zw_FR U (t.2) (t0.2) (J) (J)) (Q := fun (r : zI) (t : Int32 × zI) => zw_FR U (zp_X0_measureUp_38 (t.2) (J) (.inr r)).1 (t.2) (zp_X0_measureUp_38 (t.2) (J) (.inr r)).2 (J)) (fun s o h1 => by
    have h2 := fr_s_X0_measureUp_38 U hU v0 v1 J hv0 s o h1
    cases o with
    | inl t => exact h2
    | inr r => exact h2) (fun h1 h2 => zw_FR.tr h2 h1) n s r h
theorem fr_s_X0_measureUp_28 (U : Nat → Prop) {R : zR} (hU : ∀ o j, U o → U (R o j)) (v0 : Nat) (J : zJ) (hv0 : U v0) (s : Int32 × zI) (o : (Int32 × zI) ⊕ (zI)) (hf : s_X0_measureUp_28 v0 R s = some o) : zw_FR U (zp_X0_measureUp_28 s.2 J o).1 (s.2) (zp_X0_measureUp_28 s.2 J o).2 (J) := by
  have hF : zw_FR U (s.2) (s.2) (J) (J) := zw_FR.rf
  unfold s_X0_measureUp_28 at hf
  obtain ⟨g7, hf⟩ := zw_gcE hf (by decide)
  rcases zw_ifE hf with ⟨c8, hf⟩ | ⟨c8, hf⟩
  ·
    cases hf
    exact hF
  ·
    obtain ⟨q22, hq22, hf⟩ := zw_bdE hf
    have hF := (fr_s_X0_measureUp_38_lp U hU v0 s.1 J hv0 _ _ _ hq22).tr hF
    obtain ⟨x23, ex23, hf⟩ := zw_letE hf
    cases hf
    exact hF
theorem fr_s_X0_measureUp_28_lp (U : Nat → Prop) {R : zR} (hU : ∀ o j, U o → U (R o j)) (v0 : Nat) (J : zJ) (hv0 : U v0) (n : Nat) (s : Int32 × zI) (r : zI) (h : zw_it (s_X0_measureUp_28 v0 R) n s = some r) : zw_FR U (zp_X0_measureUp_28 (s.2) (J) (.inr r)).1 (s.2) (zp_X0_measureUp_28 (s.2) (J) (.inr r)).2 (J) :=
  zw_itF (A := fun t t0 : Int32 × zI => zw_FR U (t.2) (t0.2) (J) (J)) (Q := fun (r : zI) (t : Int32 × zI) => zw_FR U (zp_X0_measureUp_28 (t.2) (J) (.inr r)).1 (t.2) (zp_X0_measureUp_28 (t.2) (J) (.inr r)).2 (J)) (fun s o h1 => by
    have h2 := fr_s_X0_measureUp_28 U hU v0 J hv0 s o h1
    cases o with
    | inl t => exact h2
    | inr r => exact h2) (fun h1 h2 => zw_FR.tr h2 h1) n s r h
theorem fr_X0_measureUp (U : Nat → Prop) {R : zR} (hU : ∀ o j, U o → U (R o j)) (v0 : Nat) (I : zI) (J : zJ) (hv0 : U v0) (o : zI) (hf : f_X0_measureUp v0 I R = some o) : zw_FR U (o) (I) (J) (J) := by
  have hF : zw_FR U I I J J := zw_FR.rf
  unfold f_X0_measureUp at hf
  obtain ⟨g1, hf⟩ := zw_gcE hf (by decide)
  obtain ⟨I2, eI2, hf⟩ := zw_letE hf
  have hF := hF.wI eI2 hv0
  obtain ⟨I3, eI3, hf⟩ := zw_letE hf
  have hF := hF.wI eI3 hv0
  obtain ⟨I4, eI4, hf⟩ := zw_letE hf
  have hF := hF.wI eI4 hv0
  obtain ⟨I5, eI5, hf⟩ := zw_letE hf
  have hF := hF.wI eI5 hv0
  obtain ⟨I6, eI6, hf⟩ := zw_letE hf
  have hF := hF.wI eI6 hv0
  obtain ⟨q24, hq24, hf⟩ := zw_bdE hf
  have hF := (fr_s_X0_measureUp_28_lp U hU v0 J hv0 _ _ _ hq24).tr hF
  cases hf
  exact hF
theorem fr_X10_annul (U : Nat → Prop) {R : zR} (hU : ∀ o j, U o → U (R o j)) (v0 : Nat) (v1 : Int32) (I : zI) (J : zJ) (hv0 : U v0) (o : Int32 × zI) (hf : f_X10_annul v0 v1 I R = some o) : zw_FR U (o.2) (I) (J) (J) := by
  have hF : zw_FR U I I J J := zw_FR.rf
  unfold f_X10_annul at hf
  obtain ⟨g1, hf⟩ := zw_gcE hf (by decide)
  obtain ⟨g2, hf⟩ := zw_gcE hf (by decide)
  obtain ⟨q3, hq3, hf⟩ := zw_bdE hf
  have hF := (fr_X9_addVoid U hU (R v0 11) v1 I J (hU _ _ hv0) _ hq3).tr hF
  cases hf
  exact hF
theorem fr_X10_feed (U : Nat → Prop) {R : zR} (hU : ∀ o j, U o → U (R o j)) (v0 : Nat) (v1 : Int32) (v2 : Int32) (v3 : Int32) (v4 : Int32) (v5 : Int32) (I : zI) (J : zJ) (hv0 : U v0) (o : Int32 × zI) (hf : f_X10_feed v0 v1 v2 v3 v4 v5 I R = some o) : zw_FR U (o.2) (I) (J) (J) := by
  have hF : zw_FR U I I J J := zw_FR.rf
  unfold f_X10_feed at hf
  obtain ⟨g1, hf⟩ := zw_gcE hf (by decide)
  obtain ⟨g2, hf⟩ := zw_gcE hf (by decide)
  rcases zw_ifE hf with ⟨c3, hf⟩ | ⟨c3, hf⟩
  ·
    obtain ⟨q4, hq4, hf⟩ := zw_bdE hf
    have hF := (fr_X8_append U hU (R v0 0) v1 I J (hU _ _ hv0) _ hq4).tr hF
    obtain ⟨q5, hq5, hf⟩ := zw_bdE hf
    have hF := (fr_X8_append U hU (R v0 0) v2 q4 J (hU _ _ hv0) _ hq5).tr hF
    obtain ⟨q6, hq6, hf⟩ := zw_bdE hf
    have hF := (fr_X8_append U hU (R v0 0) v3 q5 J (hU _ _ hv0) _ hq6).tr hF
    obtain ⟨q7, hq7, hf⟩ := zw_bdE hf
    have hF := (fr_X8_append U hU (R v0 0) v4 q6 J (hU _ _ hv0) _ hq7).tr hF
    obtain ⟨q8, hq8, hf⟩ := zw_bdE hf
    have hF := (fr_X8_append U hU (R v0 0) v5 q7 J (hU _ _ hv0) _ hq8).tr hF
    cases hf
    exact hF
  ·
    cases hf
    exact hF
theorem fr_X10_forgetAll (U : Nat → Prop) {R : zR} (hU : ∀ o j, U o → U (R o j)) (v0 : Nat) (I : zI) (J : zJ) (hv0 : U v0) (o : zI) (hf : f_X10_forgetAll v0 I R = some o) : zw_FR U (o) (I) (J) (J) := by
  have hF : zw_FR U I I J J := zw_FR.rf
  unfold f_X10_forgetAll at hf
  obtain ⟨g1, hf⟩ := zw_gcE hf (by decide)
  obtain ⟨I2, eI2, hf⟩ := zw_letE hf
  have hF := hF.wI eI2 hv0
  obtain ⟨I3, eI3, hf⟩ := zw_letE hf
  have hF := hF.wI eI3 hv0
  obtain ⟨g4, hf⟩ := zw_gcE hf (by decide)
  obtain ⟨I5, eI5, hf⟩ := zw_letE hf
  have hF := hF.wI eI5 (hU _ _ hv0)
  obtain ⟨g6, hf⟩ := zw_gcE hf (by decide)
  obtain ⟨q7, hq7, hf⟩ := zw_bdE hf
  have hF := (fr_J7_fill_53178 U hU (R v0 10) (-1) I5 J (hU _ _ hv0) _ hq7).tr hF
  obtain ⟨g8, hf⟩ := zw_gcE hf (by decide)
  obtain ⟨q9, hq9, hf⟩ := zw_bdE hf
  have hF := (fr_J7_fill_53178 U hU (R v0 12) (-1) q7 J (hU _ _ hv0) _ hq9).tr hF
  cases hf
  exact hF
theorem fr_X10_test (U : Nat → Prop) {R : zR} (hU : ∀ o j, U o → U (R o j)) (v0 : Nat) (v1 : Int32) (v2 : Int32) (v3 : Int32) (I : zI) (J : zJ) (hv0 : U v0) (o : Int32 × zI) (hf : f_X10_test v0 v1 v2 v3 I R = some o) : zw_FR U (o.2) (I) (J) (J) := by
  have hF : zw_FR U I I J J := zw_FR.rf
  unfold f_X10_test at hf
  obtain ⟨g1, hf⟩ := zw_gcE hf (by decide)
  obtain ⟨q2, hq2, hf⟩ := zw_bdE hf
  rcases zw_ifE hf with ⟨c3, hf⟩ | ⟨c3, hf⟩
  ·
    cases hf
    exact hF
  ·
    obtain ⟨q4, hq4, hf⟩ := zw_bdE hf
    rcases zw_ifE hf with ⟨c5, hf⟩ | ⟨c5, hf⟩
    ·
      cases hf
      exact hF
    ·
      rcases zw_ifE hf with ⟨c6, hf⟩ | ⟨c6, hf⟩
      ·
        cases hf
        exact hF
      ·
        rcases zw_ifE hf with ⟨c7, hf⟩ | ⟨c7, hf⟩
        ·
          obtain ⟨g8, hf⟩ := zw_gcE hf (by decide)
          obtain ⟨q9, hq9, hf⟩ := zw_bdE hf
          have hF := (fr_X9_addTest U hU (R v0 11) v1 v2 v3 I J (hU _ _ hv0) _ hq9).tr hF
          cases hf
          exact hF
        ·
          cases hf
          exact hF
theorem fr_X11_annul (U : Nat → Prop) {R : zR} (hU : ∀ o j, U o → U (R o j)) (v0 : Nat) (v1 : Int32) (I : zI) (J : zJ) (hv0 : U v0) (o : Int32 × zI) (hf : f_X11_annul v0 v1 I R = some o) : zw_FR U (o.2) (I) (J) (J) := by
  have hF : zw_FR U I I J J := zw_FR.rf
  unfold f_X11_annul at hf
  obtain ⟨g1, hf⟩ := zw_gcE hf (by decide)
  rcases zw_ifE hf with ⟨c2, hf⟩ | ⟨c2, hf⟩
  ·
    cases hf
    exact hF
  ·
    obtain ⟨q3, hq3, hf⟩ := zw_bdE hf
    rcases zw_ifE hf with ⟨c4, hf⟩ | ⟨c4, hf⟩
    ·
      cases hf
      exact hF
    ·
      obtain ⟨g5, hf⟩ := zw_gcE hf (by decide)
      obtain ⟨i6, hf⟩ := zw_inE hf
      rcases zw_ifE hf with ⟨c7, hf⟩ | ⟨c7, hf⟩
      ·
        obtain ⟨i8, hf⟩ := zw_inE hf
        obtain ⟨I9, eI9, hf⟩ := zw_letE hf
        have hF := hF.wI eI9 (hU _ _ hv0)
        obtain ⟨I10, eI10, hf⟩ := zw_letE hf
        have hF := hF.wI eI10 hv0
        cases hf
        exact hF
      ·
        cases hf
        exact hF
def zp_X11_comesOut_0 (I : zI) (J : zJ) (o : (zI) ⊕ ((zI) ⊕ (zI))) : zI × zJ := match o with | .inl t => (t, J) | .inr r => (match r with | .inl r0 => (r0, J) | .inr t0 => (t0, J))
theorem fr_j_X11_comesOut_84_0 (U : Nat → Prop) {R : zR} (hU : ∀ o j, U o → U (R o j)) (v0 : Nat) (v1 : Int32) (s0 : Nat) (s1 : Int32) (I : zI) (J : zJ) (hs0 : U s0) (o : (zI) ⊕ ((zI) ⊕ (zI))) (hf : j_X11_comesOut_84_0 v0 v1 s0 s1 I R = some o) : zw_FR U (zp_X11_comesOut_0 I J o).1 (I) (zp_X11_comesOut_0 I J o).2 (J) := by
  have hF : zw_FR U I I J J := zw_FR.rf
  unfold j_X11_comesOut_84_0 at hf
  obtain ⟨g27, hf⟩ := zw_gcE hf (by decide)
  obtain ⟨q28, hq28, hf⟩ := zw_bdE hf
  have hF := (fr_X11_emit U hU s0 s1 0 I J hs0 _ hq28).tr hF
  cases hf
  exact hF
theorem fr_j_X11_comesOut_42_0 (U : Nat → Prop) {R : zR} (hU : ∀ o j, U o → U (R o j)) (v0 : Nat) (v1 : Int32) (v2 : Int32) (I : zI) (J : zJ) (hv0 : U v0) (o : (zI) ⊕ ((zI) ⊕ (zI))) (hf : j_X11_comesOut_42_0 v0 v1 v2 I R = some o) : zw_FR U (zp_X11_comesOut_0 I J o).1 (I) (zp_X11_comesOut_0 I J o).2 (J) := by
  have hF : zw_FR U I I J J := zw_FR.rf
  unfold j_X11_comesOut_42_0 at hf
  obtain ⟨g22, hf⟩ := zw_gcE hf (by decide)
  obtain ⟨I23, eI23, hf⟩ := zw_letE hf
  have hF := hF.wI eI23 hv0
  rcases zw_ifE hf with ⟨c24, hf⟩ | ⟨c24, hf⟩
  ·
    rcases zw_ifE hf with ⟨c25, hf⟩ | ⟨c25, hf⟩
    ·
      rcases zw_ifE hf with ⟨c26, hf⟩ | ⟨c26, hf⟩
      ·
        exact (fr_j_X11_comesOut_84_0 U hU v0 v1 v0 5 I23 J hv0 _ hf).tr hF
      ·
        exact (fr_j_X11_comesOut_84_0 U hU v0 v1 v0 4 I23 J hv0 _ hf).tr hF
    ·
      exact (fr_j_X11_comesOut_84_0 U hU v0 v1 v0 3 I23 J hv0 _ hf).tr hF
  ·
    exact (fr_j_X11_comesOut_84_0 U hU v0 v1 v0 2 I23 J hv0 _ hf).tr hF
theorem fr_s_X11_comesOut_0 (U : Nat → Prop) {R : zR} (hU : ∀ o j, U o → U (R o j)) (v0 : Nat) (v1 : Int32) (J : zJ) (hv0 : U v0) (s : zI) (o : (zI) ⊕ ((zI) ⊕ (zI))) (hf : s_X11_comesOut_0 v0 v1 R s = some o) : zw_FR U (zp_X11_comesOut_0 s J o).1 (s) (zp_X11_comesOut_0 s J o).2 (J) := by
  have hF : zw_FR U (s) (s) (J) (J) := zw_FR.rf
  unfold s_X11_comesOut_0 at hf
  obtain ⟨g15, hf⟩ := zw_gcE hf (by decide)
  rcases zw_ifE hf with ⟨c16, hf⟩ | ⟨c16, hf⟩
  ·
    cases hf
    exact hF
  ·
    obtain ⟨g17, hf⟩ := zw_gcE hf (by decide)
    obtain ⟨i18, hf⟩ := zw_inE hf
    obtain ⟨x19, ex19, hf⟩ := zw_letE hf
    rcases zw_ifE hf with ⟨c20, hf⟩ | ⟨c20, hf⟩
    ·
      cases hf
      exact hF
    ·
      rcases zw_ifE hf with ⟨c21, hf⟩ | ⟨c21, hf⟩
      ·
        exact (fr_j_X11_comesOut_42_0 U hU v0 v1 x19 s J hv0 _ hf).tr hF
      ·
        rcases zw_ifE hf with ⟨c29, hf⟩ | ⟨c29, hf⟩
        ·
          cases hf
          exact hF
        ·
          rcases zw_ifE hf with ⟨c30, hf⟩ | ⟨c30, hf⟩
          ·
            exact (fr_j_X11_comesOut_42_0 U hU v0 v1 x19 s J hv0 _ hf).tr hF
          ·
            cases hf
            exact hF
theorem fr_s_X11_comesOut_0_lp (U : Nat → Prop) {R : zR} (hU : ∀ o j, U o → U (R o j)) (v0 : Nat) (v1 : Int32) (J : zJ) (hv0 : U v0) (n : Nat) (s : zI) (r : (zI) ⊕ (zI)) (h : zw_it (s_X11_comesOut_0 v0 v1 R) n s = some r) : zw_FR U (zp_X11_comesOut_0 (s) (J) (.inr r)).1 (s) (zp_X11_comesOut_0 (s) (J) (.inr r)).2 (J) :=
  zw_itF (A := fun t t0 : zI => zw_FR U (t) (t0) (J) (J)) (Q := fun (r : (zI) ⊕ (zI)) (t : zI) => zw_FR U (zp_X11_comesOut_0 (t) (J) (.inr r)).1 (t) (zp_X11_comesOut_0 (t) (J) (.inr r)).2 (J)) (fun s o h1 => by
    have h2 := fr_s_X11_comesOut_0 U hU v0 v1 J hv0 s o h1
    cases o with
    | inl t => exact h2
    | inr r => exact h2) (fun h1 h2 => zw_FR.tr h2 h1) n s r h
theorem fr_j_X11_comesOut_84 (U : Nat → Prop) {R : zR} (hU : ∀ o j, U o → U (R o j)) (v0 : Nat) (v1 : Int32) (s0 : Nat) (s1 : Int32) (I : zI) (J : zJ) (hv0 : U v0) (hs0 : U s0) (o : zI) (hf : j_X11_comesOut_84 v0 v1 s0 s1 I R = some o) : zw_FR U (o) (I) (J) (J) := by
  have hF : zw_FR U I I J J := zw_FR.rf
  unfold j_X11_comesOut_84 at hf
  obtain ⟨g13, hf⟩ := zw_gcE hf (by decide)
  obtain ⟨q14, hq14, hf⟩ := zw_bdE hf
  have hF := (fr_X11_emit U hU s0 s1 0 I J hs0 _ hq14).tr hF
  obtain ⟨q31, hq31, hf⟩ := zw_bdE hf
  have hF := (fr_s_X11_comesOut_0_lp U hU v0 v1 J hv0 _ _ _ hq31).tr hF
  rcases q31 with a32 | a33
  ·
    cases hf
    exact hF
  ·
    cases hf
    exact hF
theorem fr_j_X11_comesOut_42 (U : Nat → Prop) {R : zR} (hU : ∀ o j, U o → U (R o j)) (v0 : Nat) (v1 : Int32) (v2 : Int32) (I : zI) (J : zJ) (hv0 : U v0) (o : zI) (hf : j_X11_comesOut_42 v0 v1 v2 I R = some o) : zw_FR U (o) (I) (J) (J) := by
  have hF : zw_FR U I I J J := zw_FR.rf
  unfold j_X11_comesOut_42 at hf
  obtain ⟨g8, hf⟩ := zw_gcE hf (by decide)
  obtain ⟨I9, eI9, hf⟩ := zw_letE hf
  have hF := hF.wI eI9 hv0
  rcases zw_ifE hf with ⟨c10, hf⟩ | ⟨c10, hf⟩
  ·
    rcases zw_ifE hf with ⟨c11, hf⟩ | ⟨c11, hf⟩
    ·
      rcases zw_ifE hf with ⟨c12, hf⟩ | ⟨c12, hf⟩
      ·
        exact (fr_j_X11_comesOut_84 U hU v0 v1 v0 5 I9 J hv0 hv0 _ hf).tr hF
      ·
        exact (fr_j_X11_comesOut_84 U hU v0 v1 v0 4 I9 J hv0 hv0 _ hf).tr hF
    ·
      exact (fr_j_X11_comesOut_84 U hU v0 v1 v0 3 I9 J hv0 hv0 _ hf).tr hF
  ·
    exact (fr_j_X11_comesOut_84 U hU v0 v1 v0 2 I9 J hv0 hv0 _ hf).tr hF
theorem fr_X11_comesOut (U : Nat → Prop) {R : zR} (hU : ∀ o j, U o → U (R o j)) (v0 : Nat) (v1 : Int32) (I : zI) (J : zJ) (hv0 : U v0) (o : zI) (hf : f_X11_comesOut v0 v1 I R = some o) : zw_FR U (o) (I) (J) (J) := by
  have hF : zw_FR U I I J J := zw_FR.rf
  unfold f_X11_comesOut at hf
  obtain ⟨g1, hf⟩ := zw_gcE hf (by decide)
  rcases zw_ifE hf with ⟨c2, hf⟩ | ⟨c2, hf⟩
  ·
    cases hf
    exact hF
  ·
    obtain ⟨g3, hf⟩ := zw_gcE hf (by decide)
    obtain ⟨i4, hf⟩ := zw_inE hf
    obtain ⟨x5, ex5, hf⟩ := zw_letE hf
    rcases zw_ifE hf with ⟨c6, hf⟩ | ⟨c6, hf⟩
    ·
      cases hf
      exact hF
    ·
      rcases zw_ifE hf with ⟨c7, hf⟩ | ⟨c7, hf⟩
      ·
        exact (fr_j_X11_comesOut_42 U hU v0 v1 x5 I J hv0 _ hf).tr hF
      ·
        rcases zw_ifE hf with ⟨c34, hf⟩ | ⟨c34, hf⟩
        ·
          cases hf
          exact hF
        ·
          rcases zw_ifE hf with ⟨c35, hf⟩ | ⟨c35, hf⟩
          ·
            exact (fr_j_X11_comesOut_42 U hU v0 v1 x5 I J hv0 _ hf).tr hF
          ·
            cases hf
            exact hF
