theorem fr_j_X8_keepSign_99 (U : Nat → Prop) {R : zR} (hU : ∀ o j, U o → U (R o j)) (v2 : Int32) (s0 : Nat) (s1 : Int32) (s2 : Int32) (I : zI) (J : zJ) (hs0 : U s0) (o : Int32 × zI) (hf : j_X8_keepSign_99 v2 s0 s1 s2 I R = some o) : zw_FR U (o.2) (I) (J) (J) := by
  have hF : zw_FR U I I J J := zw_FR.rf
  unfold j_X8_keepSign_99 at hf
  obtain ⟨g10, hf⟩ := zw_gcE hf (by decide)
  obtain ⟨i11, hf⟩ := zw_inE hf
  obtain ⟨I12, eI12, hf⟩ := zw_letE hf
  have hF := hF.wI eI12 hs0
  cases hf
  exact hF
theorem fr_j_X8_keepSign_72 (U : Nat → Prop) {R : zR} (hU : ∀ o j, U o → U (R o j)) (v0 : Nat) (v1 : Int32) (v2 : Int32) (v3 : Int32) (I : zI) (J : zJ) (hv0 : U v0) (o : Int32 × zI) (hf : j_X8_keepSign_72 v0 v1 v2 v3 I R = some o) : zw_FR U (o.2) (I) (J) (J) := by
  have hF : zw_FR U I I J J := zw_FR.rf
  unfold j_X8_keepSign_72 at hf
  obtain ⟨g5, hf⟩ := zw_gE hf
  have g5 := of_decide_eq_true g5
  obtain ⟨q6, hq6, hf⟩ := zw_bdE hf
  obtain ⟨g7, hf⟩ := zw_gcE hf (by decide)
  obtain ⟨g8, hf⟩ := zw_gcE hf (by decide)
  rcases zw_ifE hf with ⟨c9, hf⟩ | ⟨c9, hf⟩
  ·
    exact (fr_j_X8_keepSign_99 U hU v2 (R v0 2) v1 (5 + q6) I J (hU _ _ hv0) _ hf).tr hF
  ·
    exact (fr_j_X8_keepSign_99 U hU v2 (R v0 2) v1 1 I J (hU _ _ hv0) _ hf).tr hF
theorem fr_j_X8_keepSign_57 (U : Nat → Prop) {R : zR} (hU : ∀ o j, U o → U (R o j)) (v0 : Nat) (v1 : Int32) (v2 : Int32) (v3 : Int32) (s0 : Nat) (s1 : Int32) (s2 : Int32) (I : zI) (J : zJ) (hv0 : U v0) (hs0 : U s0) (o : Int32 × zI) (hf : j_X8_keepSign_57 v0 v1 v2 v3 s0 s1 s2 I R = some o) : zw_FR U (o.2) (I) (J) (J) := by
  have hF : zw_FR U I I J J := zw_FR.rf
  unfold j_X8_keepSign_57 at hf
  obtain ⟨g17, hf⟩ := zw_gcE hf (by decide)
  obtain ⟨i18, hf⟩ := zw_inE hf
  obtain ⟨I19, eI19, hf⟩ := zw_letE hf
  have hF := hF.wI eI19 hs0
  obtain ⟨g20, hf⟩ := zw_gcE hf (by decide)
  obtain ⟨g21, hf⟩ := zw_gcE hf (by decide)
  obtain ⟨i22, hf⟩ := zw_inE hf
  rcases zw_ifE hf with ⟨c23, hf⟩ | ⟨c23, hf⟩
  ·
    exact (fr_j_X8_keepSign_72 U hU v0 v1 v2 v3 I19 J hv0 _ hf).tr hF
  ·
    cases hf
    exact hF
theorem fr_X8_keepSign (U : Nat → Prop) {R : zR} (hU : ∀ o j, U o → U (R o j)) (v0 : Nat) (v1 : Int32) (v2 : Int32) (I : zI) (J : zJ) (hv0 : U v0) (o : Int32 × zI) (hf : f_X8_keepSign v0 v1 v2 I R = some o) : zw_FR U (o.2) (I) (J) (J) := by
  have hF : zw_FR U I I J J := zw_FR.rf
  unfold f_X8_keepSign at hf
  obtain ⟨g1, hf⟩ := zw_gcE hf (by decide)
  obtain ⟨q2, hq2, hf⟩ := zw_bdE hf
  obtain ⟨q3, hq3, hf⟩ := zw_bdE hf
  rcases zw_ifE hf with ⟨c4, hf⟩ | ⟨c4, hf⟩
  ·
    exact (fr_j_X8_keepSign_72 U hU v0 v1 v2 q2 I J hv0 _ hf).tr hF
  ·
    obtain ⟨g13, hf⟩ := zw_gcE hf (by decide)
    rcases zw_ifE hf with ⟨c14, hf⟩ | ⟨c14, hf⟩
    ·
      rcases zw_ifE hf with ⟨c15, hf⟩ | ⟨c15, hf⟩
      ·
        rcases zw_ifE hf with ⟨c16, hf⟩ | ⟨c16, hf⟩
        ·
          exact (fr_j_X8_keepSign_57 U hU v0 v1 v2 q2 (R v0 2) v1 1 I J hv0 (hU _ _ hv0) _ hf).tr hF
        ·
          exact (fr_j_X8_keepSign_57 U hU v0 v1 v2 q2 (R v0 2) v1 17 I J hv0 (hU _ _ hv0) _ hf).tr hF
      ·
        exact (fr_j_X8_keepSign_57 U hU v0 v1 v2 q2 (R v0 2) v1 16 I J hv0 (hU _ _ hv0) _ hf).tr hF
    ·
      exact (fr_j_X8_keepSign_57 U hU v0 v1 v2 q2 (R v0 2) v1 15 I J hv0 (hU _ _ hv0) _ hf).tr hF
def zp_X0_addRow_30 (I : zI) (J : zJ) (o : (Int32 × zI) ⊕ (zI)) : zI × zJ := match o with | .inl t => (t.2, J) | .inr r => (r, J)
theorem fr_j_X0_addRow_74_30 (U : Nat → Prop) {R : zR} (hU : ∀ o j, U o → U (R o j)) (v0 : Nat) (v1 : Nat) (v2 : Int32) (v3 : Int32) (v4 : Int32) (s0 : Nat) (s1 : Int32) (s2 : Int32) (I : zI) (J : zJ) (hs0 : U s0) (o : (Int32 × zI) ⊕ (zI)) (hf : j_X0_addRow_74_30 v0 v1 v2 v3 v4 s0 s1 s2 I R = some o) : zw_FR U (zp_X0_addRow_30 I J o).1 (I) (zp_X0_addRow_30 I J o).2 (J) := by
  have hF : zw_FR U I I J J := zw_FR.rf
  unfold j_X0_addRow_74_30 at hf
  obtain ⟨g8, hf⟩ := zw_gcE hf (by decide)
  obtain ⟨i9, hf⟩ := zw_inE hf
  obtain ⟨I10, eI10, hf⟩ := zw_letE hf
  have hF := hF.wI eI10 hs0
  obtain ⟨x11, ex11, hf⟩ := zw_letE hf
  cases hf
  exact hF
theorem fr_s_X0_addRow_30 (U : Nat → Prop) {R : zR} (hU : ∀ o j, U o → U (R o j)) (v0 : Nat) (v1 : Nat) (v2 : Int32) (v3 : Int32) (J : zJ) (hv0 : U v0) (s : Int32 × zI) (o : (Int32 × zI) ⊕ (zI)) (hf : s_X0_addRow_30 v0 v1 v2 v3 R s = some o) : zw_FR U (zp_X0_addRow_30 s.2 J o).1 (s.2) (zp_X0_addRow_30 s.2 J o).2 (J) := by
  have hF : zw_FR U (s.2) (s.2) (J) (J) := zw_FR.rf
  unfold s_X0_addRow_30 at hf
  obtain ⟨g4, hf⟩ := zw_gcE hf (by decide)
  rcases zw_ifE hf with ⟨c5, hf⟩ | ⟨c5, hf⟩
  ·
    cases hf
    exact hF
  ·
    obtain ⟨g6, hf⟩ := zw_gcE hf (by decide)
    rcases zw_ifE hf with ⟨c7, hf⟩ | ⟨c7, hf⟩
    ·
      exact (fr_j_X0_addRow_74_30 U hU v0 v1 v2 v3 s.1 (R v0 0) ((12 * (s.2 v0 2)) + s.1) 0 s.2 J (hU _ _ hv0) _ hf).tr hF
    ·
      obtain ⟨g12, hf⟩ := zw_gcE hf (by decide)
      obtain ⟨q13, hq13, hf⟩ := zw_bdE hf
      obtain ⟨q14, hq14, hf⟩ := zw_bdE hf
      exact (fr_j_X0_addRow_74_30 U hU v0 v1 v2 v3 s.1 (R v0 0) ((12 * (s.2 v0 2)) + s.1) q14 s.2 J (hU _ _ hv0) _ hf).tr hF
theorem fr_s_X0_addRow_30_lp (U : Nat → Prop) {R : zR} (hU : ∀ o j, U o → U (R o j)) (v0 : Nat) (v1 : Nat) (v2 : Int32) (v3 : Int32) (J : zJ) (hv0 : U v0) (n : Nat) (s : Int32 × zI) (r : zI) (h : zw_it (s_X0_addRow_30 v0 v1 v2 v3 R) n s = some r) : zw_FR U (zp_X0_addRow_30 (s.2) (J) (.inr r)).1 (s.2) (zp_X0_addRow_30 (s.2) (J) (.inr r)).2 (J) :=
  zw_itF (A := fun t t0 : Int32 × zI => zw_FR U (t.2) (t0.2) (J) (J)) (Q := fun (r : zI) (t : Int32 × zI) => zw_FR U (zp_X0_addRow_30 (t.2) (J) (.inr r)).1 (t.2) (zp_X0_addRow_30 (t.2) (J) (.inr r)).2 (J)) (fun s o h1 => by
    have h2 := fr_s_X0_addRow_30 U hU v0 v1 v2 v3 J hv0 s o h1
    cases o with
    | inl t => exact h2
    | inr r => exact h2) (fun h1 h2 => zw_FR.tr h2 h1) n s r h
theorem fr_j_X0_addRow_27 (U : Nat → Prop) {R : zR} (hU : ∀ o j, U o → U (R o j)) (v0 : Nat) (v1 : Nat) (v2 : Int32) (v3 : Int32) (I : zI) (J : zJ) (hv0 : U v0) (o : zI) (hf : j_X0_addRow_27 v0 v1 v2 v3 I R = some o) : zw_FR U (o) (I) (J) (J) := by
  have hF : zw_FR U I I J J := zw_FR.rf
  unfold j_X0_addRow_27 at hf
  obtain ⟨q15, hq15, hf⟩ := zw_bdE hf
  have hF := (fr_s_X0_addRow_30_lp U hU v0 v1 v2 v3 J hv0 _ _ _ hq15).tr hF
  obtain ⟨g16, hf⟩ := zw_gcE hf (by decide)
  obtain ⟨I17, eI17, hf⟩ := zw_letE hf
  have hF := hF.wI eI17 hv0
  cases hf
  exact hF
theorem fr_X0_addRow (U : Nat → Prop) {R : zR} (hU : ∀ o j, U o → U (R o j)) (v0 : Nat) (v1 : Nat) (v2 : Int32) (v3 : Int32) (I : zI) (J : zJ) (hv0 : U v0) (o : zI) (hf : f_X0_addRow v0 v1 v2 v3 I R = some o) : zw_FR U (o) (I) (J) (J) := by
  have hF : zw_FR U I I J J := zw_FR.rf
  unfold f_X0_addRow at hf
  obtain ⟨g1, hf⟩ := zw_gcE hf (by decide)
  rcases zw_ifE hf with ⟨c2, hf⟩ | ⟨c2, hf⟩
  ·
    rcases zw_ifE hf with ⟨c3, hf⟩ | ⟨c3, hf⟩
    ·
      exact (fr_j_X0_addRow_27 U hU v0 v1 v2 v3 I J hv0 _ hf).tr hF
    ·
      obtain ⟨x18, ex18, hf⟩ := zw_letE hf
      obtain ⟨I19, eI19, hf⟩ := zw_letE hf
      have hF := hF.wI eI19 hv0
      exact (fr_j_X0_addRow_27 U hU v0 v1 v2 v3 I19 J hv0 _ hf).tr hF
  ·
    cases hf
    exact hF
theorem fr_X11_left (U : Nat → Prop) {R : zR} (hU : ∀ o j, U o → U (R o j)) (v0 : Nat) (v1 : Int32) (I : zI) (J : zJ) (hv0 : U v0) (o : Int32 × zI) (hf : f_X11_left v0 v1 I R = some o) : zw_FR U (o.2) (I) (J) (J) := by
  have hF : zw_FR U I I J J := zw_FR.rf
  unfold f_X11_left at hf
  obtain ⟨g1, hf⟩ := zw_gcE hf (by decide)
  obtain ⟨q2, hq2, hf⟩ := zw_bdE hf
  rcases zw_ifE hf with ⟨c3, hf⟩ | ⟨c3, hf⟩
  ·
    cases hf
    exact hF
  ·
    obtain ⟨q4, hq4, hf⟩ := zw_bdE hf
    have hF := (fr_X11_leftBy U hU v0 v1 I J hv0 _ hq4).tr hF
    cases hf
    exact hF
def zp_X11_next_36 (I : zI) (J : zJ) (o : (Int32 × Int32 × Int32 × zI) ⊕ (Int32 × zI)) : zI × zJ := match o with | .inl t => (t.2.2.2, J) | .inr r => (r.2, J)
def zp_X11_next_53 (I : zI) (J : zJ) (o : (Int32 × Int32 × Int32 × zI) ⊕ (Int32 × Int32 × zI)) : zI × zJ := match o with | .inl t => (t.2.2.2, J) | .inr r => (r.2.2, J)
def zp_X11_next_68 (I : zI) (J : zJ) (o : (Int32 × Int32 × Int32 × zI) ⊕ (Int32 × Int32 × zI)) : zI × zJ := match o with | .inl t => (t.2.2.2, J) | .inr r => (r.2.2, J)
theorem fr_j_X11_next_133_68 (U : Nat → Prop) {R : zR} (hU : ∀ o j, U o → U (R o j)) (v0 : Nat) (v2 : Int32) (v3 : Int32) (v4 : Int32) (v5 : Int32) (v6 : Int32) (v7 : Int32) (v8 : Int32) (v9 : Int32) (I : zI) (J : zJ)  (o : (Int32 × Int32 × Int32 × zI) ⊕ (Int32 × Int32 × zI)) (hf : j_X11_next_133_68 v0 v2 v3 v4 v5 v6 v7 v8 v9 I R = some o) : zw_FR U (zp_X11_next_68 I J o).1 (I) (zp_X11_next_68 I J o).2 (J) := by
  have hF : zw_FR U I I J J := zw_FR.rf
  unfold j_X11_next_133_68 at hf
  obtain ⟨x19, ex19, hf⟩ := zw_letE hf
  cases hf
  exact hF
theorem fr_j_X11_next_122_68 (U : Nat → Prop) {R : zR} (hU : ∀ o j, U o → U (R o j)) (v0 : Nat) (v2 : Int32) (v3 : Int32) (v4 : Int32) (v5 : Int32) (v6 : Int32) (v7 : Int32) (v8 : Int32) (v9 : Int32) (v10 : Int32) (I : zI) (J : zJ)  (o : (Int32 × Int32 × Int32 × zI) ⊕ (Int32 × Int32 × zI)) (hf : j_X11_next_122_68 v0 v2 v3 v4 v5 v6 v7 v8 v9 v10 I R = some o) : zw_FR U (zp_X11_next_68 I J o).1 (I) (zp_X11_next_68 I J o).2 (J) := by
  have hF : zw_FR U I I J J := zw_FR.rf
  unfold j_X11_next_122_68 at hf
  rcases zw_ifE hf with ⟨c18, hf⟩ | ⟨c18, hf⟩
  ·
    exact (fr_j_X11_next_133_68 U hU v0 v2 v3 v4 v5 v6 v7 v8 v9 I J  _ hf).tr hF
  ·
    exact (fr_j_X11_next_133_68 U hU v0 v2 v3 v4 v5 v6 v7 v10 v9 I J  _ hf).tr hF
theorem fr_j_X11_next_118_68 (U : Nat → Prop) {R : zR} (hU : ∀ o j, U o → U (R o j)) (v0 : Nat) (v2 : Int32) (v3 : Int32) (v4 : Int32) (v5 : Int32) (v6 : Int32) (v8 : Int32) (v9 : Int32) (v10 : Int32) (I : zI) (J : zJ)  (o : (Int32 × Int32 × Int32 × zI) ⊕ (Int32 × Int32 × zI)) (hf : j_X11_next_118_68 v0 v2 v3 v4 v5 v6 v8 v9 v10 I R = some o) : zw_FR U (zp_X11_next_68 I J o).1 (I) (zp_X11_next_68 I J o).2 (J) := by
  have hF : zw_FR U I I J J := zw_FR.rf
  unfold j_X11_next_118_68 at hf
  exact (fr_j_X11_next_122_68 U hU v0 v2 v3 v4 v5 v6 v10 v8 v9 v10 I J  _ hf).tr hF
theorem fr_s_X11_next_68 (U : Nat → Prop) {R : zR} (hU : ∀ o j, U o → U (R o j)) (v0 : Nat) (v2 : Int32) (v3 : Int32) (v4 : Int32) (v5 : Int32) (v6 : Int32) (J : zJ) (hv0 : U v0) (s : Int32 × Int32 × Int32 × zI) (o : (Int32 × Int32 × Int32 × zI) ⊕ (Int32 × Int32 × zI)) (hf : s_X11_next_68 v0 v2 v3 v4 v5 v6 R s = some o) : zw_FR U (zp_X11_next_68 s.2.2.2 J o).1 (s.2.2.2) (zp_X11_next_68 s.2.2.2 J o).2 (J) := by
  have hF : zw_FR U (s.2.2.2) (s.2.2.2) (J) (J) := zw_FR.rf
  unfold s_X11_next_68 at hf
  obtain ⟨g11, hf⟩ := zw_gcE hf (by decide)
  obtain ⟨g12, hf⟩ := zw_gcE hf (by decide)
  obtain ⟨i13, hf⟩ := zw_inE hf
  rcases zw_ifE hf with ⟨c14, hf⟩ | ⟨c14, hf⟩
  ·
    cases hf
    exact hF
  ·
    rcases zw_ifE hf with ⟨c15, hf⟩ | ⟨c15, hf⟩
    ·
      obtain ⟨q16, hq16, hf⟩ := zw_bdE hf
      have hF := (fr_X11_brightOf U hU v0 v5 s.2.2.1 v6 s.2.2.2 J hv0 _ hq16).tr hF
      rcases zw_ifE hf with ⟨c17, hf⟩ | ⟨c17, hf⟩
      ·
        exact (fr_j_X11_next_118_68 U hU v0 v2 v3 v4 v5 v6 s.2.1 s.2.2.1 q16.1 q16.2 J  _ hf).tr hF
      ·
        rcases zw_ifE hf with ⟨c20, hf⟩ | ⟨c20, hf⟩
        ·
          exact (fr_j_X11_next_122_68 U hU v0 v2 v3 v4 v5 v6 s.1 s.2.1 s.2.2.1 q16.1 q16.2 J  _ hf).tr hF
        ·
          exact (fr_j_X11_next_118_68 U hU v0 v2 v3 v4 v5 v6 s.2.1 s.2.2.1 q16.1 q16.2 J  _ hf).tr hF
    ·
      exact (fr_j_X11_next_133_68 U hU v0 v2 v3 v4 v5 v6 s.1 s.2.1 s.2.2.1 s.2.2.2 J  _ hf).tr hF
theorem fr_s_X11_next_68_lp (U : Nat → Prop) {R : zR} (hU : ∀ o j, U o → U (R o j)) (v0 : Nat) (v2 : Int32) (v3 : Int32) (v4 : Int32) (v5 : Int32) (v6 : Int32) (J : zJ) (hv0 : U v0) (n : Nat) (s : Int32 × Int32 × Int32 × zI) (r : Int32 × Int32 × zI) (h : zw_it (s_X11_next_68 v0 v2 v3 v4 v5 v6 R) n s = some r) : zw_FR U (zp_X11_next_68 (s.2.2.2) (J) (.inr r)).1 (s.2.2.2) (zp_X11_next_68 (s.2.2.2) (J) (.inr r)).2 (J) :=
  zw_itF (A := fun t t0 : Int32 × Int32 × Int32 × zI => zw_FR U (t.2.2.2) (t0.2.2.2) (J) (J)) (Q := fun (r : Int32 × Int32 × zI) (t : Int32 × Int32 × Int32 × zI) => zw_FR U (zp_X11_next_68 (t.2.2.2) (J) (.inr r)).1 (t.2.2.2) (zp_X11_next_68 (t.2.2.2) (J) (.inr r)).2 (J)) (fun s o h1 => by
    have h2 := fr_s_X11_next_68 U hU v0 v2 v3 v4 v5 v6 J hv0 s o h1
    cases o with
    | inl t => exact h2
    | inr r => exact h2) (fun h1 h2 => zw_FR.tr h2 h1) n s r h
theorem fr_j_X11_next_167_53 (U : Nat → Prop) {R : zR} (hU : ∀ o j, U o → U (R o j)) (v0 : Nat) (v2 : Int32) (v3 : Int32) (v4 : Int32) (v5 : Int32) (v6 : Int32) (I : zI) (J : zJ)  (o : (Int32 × Int32 × Int32 × zI) ⊕ (Int32 × Int32 × zI)) (hf : j_X11_next_167_53 v0 v2 v3 v4 v5 v6 I R = some o) : zw_FR U (zp_X11_next_53 I J o).1 (I) (zp_X11_next_53 I J o).2 (J) := by
  have hF : zw_FR U I I J J := zw_FR.rf
  unfold j_X11_next_167_53 at hf
  obtain ⟨x25, ex25, hf⟩ := zw_letE hf
  cases hf
  exact hF
theorem fr_s_X11_next_53 (U : Nat → Prop) {R : zR} (hU : ∀ o j, U o → U (R o j)) (v0 : Nat) (v2 : Int32) (v5 : Int32) (J : zJ) (hv0 : U v0) (s : Int32 × Int32 × Int32 × zI) (o : (Int32 × Int32 × Int32 × zI) ⊕ (Int32 × Int32 × zI)) (hf : s_X11_next_53 v0 v2 v5 R s = some o) : zw_FR U (zp_X11_next_53 s.2.2.2 J o).1 (s.2.2.2) (zp_X11_next_53 s.2.2.2 J o).2 (J) := by
  have hF : zw_FR U (s.2.2.2) (s.2.2.2) (J) (J) := zw_FR.rf
  unfold s_X11_next_53 at hf
  rcases zw_ifE hf with ⟨c10, hf⟩ | ⟨c10, hf⟩
  ·
    cases hf
    exact hF
  ·
    obtain ⟨q21, hq21, hf⟩ := zw_bdE hf
    have hF := (fr_s_X11_next_68_lp U hU v0 v2 s.1 s.2.1 v5 s.2.2.1 J hv0 _ _ _ hq21).tr hF
    rcases zw_ifE hf with ⟨c22, hf⟩ | ⟨c22, hf⟩
    ·
      obtain ⟨x23, ex23, hf⟩ := zw_letE hf
      obtain ⟨x24, ex24, hf⟩ := zw_letE hf
      exact (fr_j_X11_next_167_53 U hU v0 v2 x24 x23 v5 s.2.2.1 q21.2.2 J  _ hf).tr hF
    ·
      exact (fr_j_X11_next_167_53 U hU v0 v2 s.1 s.2.1 v5 s.2.2.1 q21.2.2 J  _ hf).tr hF
theorem fr_s_X11_next_53_lp (U : Nat → Prop) {R : zR} (hU : ∀ o j, U o → U (R o j)) (v0 : Nat) (v2 : Int32) (v5 : Int32) (J : zJ) (hv0 : U v0) (n : Nat) (s : Int32 × Int32 × Int32 × zI) (r : Int32 × Int32 × zI) (h : zw_it (s_X11_next_53 v0 v2 v5 R) n s = some r) : zw_FR U (zp_X11_next_53 (s.2.2.2) (J) (.inr r)).1 (s.2.2.2) (zp_X11_next_53 (s.2.2.2) (J) (.inr r)).2 (J) :=
  zw_itF (A := fun t t0 : Int32 × Int32 × Int32 × zI => zw_FR U (t.2.2.2) (t0.2.2.2) (J) (J)) (Q := fun (r : Int32 × Int32 × zI) (t : Int32 × Int32 × Int32 × zI) => zw_FR U (zp_X11_next_53 (t.2.2.2) (J) (.inr r)).1 (t.2.2.2) (zp_X11_next_53 (t.2.2.2) (J) (.inr r)).2 (J)) (fun s o h1 => by
    have h2 := fr_s_X11_next_53 U hU v0 v2 v5 J hv0 s o h1
    cases o with
    | inl t => exact h2
    | inr r => exact h2) (fun h1 h2 => zw_FR.tr h2 h1) n s r h
theorem fr_s_X11_next_36 (U : Nat → Prop) {R : zR} (hU : ∀ o j, U o → U (R o j)) (v0 : Nat) (v2 : Int32) (J : zJ) (hv0 : U v0) (s : Int32 × Int32 × Int32 × zI) (o : (Int32 × Int32 × Int32 × zI) ⊕ (Int32 × zI)) (hf : s_X11_next_36 v0 v2 R s = some o) : zw_FR U (zp_X11_next_36 s.2.2.2 J o).1 (s.2.2.2) (zp_X11_next_36 s.2.2.2 J o).2 (J) := by
  have hF : zw_FR U (s.2.2.2) (s.2.2.2) (J) (J) := zw_FR.rf
  unfold s_X11_next_36 at hf
  obtain ⟨g6, hf⟩ := zw_gcE hf (by decide)
  obtain ⟨g7, hf⟩ := zw_gcE hf (by decide)
  obtain ⟨i8, hf⟩ := zw_inE hf
  rcases zw_ifE hf with ⟨c9, hf⟩ | ⟨c9, hf⟩
  ·
    cases hf
    exact hF
  ·
    obtain ⟨q26, hq26, hf⟩ := zw_bdE hf
    have hF := (fr_s_X11_next_53_lp U hU v0 v2 s.2.2.1 J hv0 _ _ _ hq26).tr hF
    obtain ⟨x27, ex27, hf⟩ := zw_letE hf
    cases hf
    exact hF
theorem fr_s_X11_next_36_lp (U : Nat → Prop) {R : zR} (hU : ∀ o j, U o → U (R o j)) (v0 : Nat) (v2 : Int32) (J : zJ) (hv0 : U v0) (n : Nat) (s : Int32 × Int32 × Int32 × zI) (r : Int32 × zI) (h : zw_it (s_X11_next_36 v0 v2 R) n s = some r) : zw_FR U (zp_X11_next_36 (s.2.2.2) (J) (.inr r)).1 (s.2.2.2) (zp_X11_next_36 (s.2.2.2) (J) (.inr r)).2 (J) :=
  zw_itF (A := fun t t0 : Int32 × Int32 × Int32 × zI => zw_FR U (t.2.2.2) (t0.2.2.2) (J) (J)) (Q := fun (r : Int32 × zI) (t : Int32 × Int32 × Int32 × zI) => zw_FR U (zp_X11_next_36 (t.2.2.2) (J) (.inr r)).1 (t.2.2.2) (zp_X11_next_36 (t.2.2.2) (J) (.inr r)).2 (J)) (fun s o h1 => by
    have h2 := fr_s_X11_next_36 U hU v0 v2 J hv0 s o h1
    cases o with
    | inl t => exact h2
    | inr r => exact h2) (fun h1 h2 => zw_FR.tr h2 h1) n s r h
theorem fr_X11_next (U : Nat → Prop) {R : zR} (hU : ∀ o j, U o → U (R o j)) (v0 : Nat) (v1 : Int32) (I : zI) (J : zJ) (hv0 : U v0) (o : Int32 × zI) (hf : f_X11_next v0 v1 I R = some o) : zw_FR U (o.2) (I) (J) (J) := by
  have hF : zw_FR U I I J J := zw_FR.rf
  unfold f_X11_next at hf
  obtain ⟨g1, hf⟩ := zw_gcE hf (by decide)
  obtain ⟨q2, hq2, hf⟩ := zw_bdE hf
  rcases zw_ifE hf with ⟨c3, hf⟩ | ⟨c3, hf⟩
  ·
    obtain ⟨q4, hq4, hf⟩ := zw_bdE hf
    have hF := (fr_X11_leftBy U hU v0 v1 I J hv0 _ hq4).tr hF
    rcases zw_ifE hf with ⟨c5, hf⟩ | ⟨c5, hf⟩
    ·
      obtain ⟨q28, hq28, hf⟩ := zw_bdE hf
      have hF := (fr_s_X11_next_36_lp U hU v0 q4.1 J hv0 _ _ _ hq28).tr hF
      cases hf
      exact hF
    ·
      cases hf
      exact hF
  ·
    cases hf
    exact hF
def zp_X8_scanToken_107 (I : zI) (J : zJ) (o : (Int32) ⊕ (Int32)) : zI × zJ := match o with | .inl t => (I, J) | .inr r => (I, J)
theorem fr_j_X8_scanToken_182 (U : Nat → Prop) {R : zR} (hU : ∀ o j, U o → U (R o j)) (v4 : Int32) (s0 : Nat) (s1 : Int32) (s2 : Int32) (I : zI) (J : zJ) (hs0 : U s0) (o : Int32 × zI × zJ) (hf : j_X8_scanToken_182 v4 s0 s1 s2 I R J = some o) : zw_FR U (o.2.1) (I) (o.2.2) (J) := by
  have hF : zw_FR U I I J J := zw_FR.rf
  unfold j_X8_scanToken_182 at hf
  obtain ⟨g24, hf⟩ := zw_gcE hf (by decide)
  obtain ⟨i25, hf⟩ := zw_inE hf
  obtain ⟨I26, eI26, hf⟩ := zw_letE hf
  have hF := hF.wI eI26 hs0
  cases hf
  exact hF
theorem fr_j_X8_scanToken_181 (U : Nat → Prop) {R : zR} (hU : ∀ o j, U o → U (R o j)) (v4 : Int32) (s0 : Nat) (s1 : Int32) (I : zI) (J : zJ) (hs0 : U s0) (o : Int32 × zI × zJ) (hf : j_X8_scanToken_181 v4 s0 s1 I R J = some o) : zw_FR U (o.2.1) (I) (o.2.2) (J) := by
  have hF : zw_FR U I I J J := zw_FR.rf
  unfold j_X8_scanToken_181 at hf
  exact (fr_j_X8_scanToken_182 U hU v4 s0 s1 1 I J hs0 _ hf).tr hF
theorem fr_j_X8_scanToken_135 (U : Nat → Prop) {R : zR} (hU : ∀ o j, U o → U (R o j)) (v0 : Nat) (v1 : Int32) (v2 : Int32) (v4 : Int32) (I : zI) (J : zJ) (hv0 : U v0) (o : Int32 × zI × zJ) (hf : j_X8_scanToken_135 v0 v1 v2 v4 I R J = some o) : zw_FR U (o.2.1) (I) (o.2.2) (J) := by
  have hF : zw_FR U I I J J := zw_FR.rf
  unfold j_X8_scanToken_135 at hf
  obtain ⟨g17, hf⟩ := zw_gcE hf (by decide)
  obtain ⟨g18, hf⟩ := zw_gcE hf (by decide)
  obtain ⟨i19, hf⟩ := zw_inE hf
  obtain ⟨J20, eJ20, hf⟩ := zw_letE hf
  have hF := hF.wJ eJ20 (hU _ _ hv0)
  obtain ⟨g21, hf⟩ := zw_gcE hf (by decide)
  obtain ⟨i22, hf⟩ := zw_inE hf
  rcases zw_ifE hf with ⟨c23, hf⟩ | ⟨c23, hf⟩
  ·
    exact (fr_j_X8_scanToken_181 U hU v4 (R v0 2) v1 I J20 (hU _ _ hv0) _ hf).tr hF
  ·
    obtain ⟨i27, hf⟩ := zw_inE hf
    rcases zw_ifE hf with ⟨c28, hf⟩ | ⟨c28, hf⟩
    ·
      exact (fr_j_X8_scanToken_181 U hU v4 (R v0 2) v1 I J20 (hU _ _ hv0) _ hf).tr hF
    ·
      exact (fr_j_X8_scanToken_182 U hU v4 (R v0 2) v1 4 I J20 (hU _ _ hv0) _ hf).tr hF
def zp_X8_scanToken_63 (I : zI) (J : zJ) (o : (Int32) ⊕ (Int32)) : zI × zJ := match o with | .inl t => (I, J) | .inr r => (I, J)
theorem fr_j_X8_scanToken_90 (U : Nat → Prop) {R : zR} (hU : ∀ o j, U o → U (R o j)) (v0 : Nat) (v1 : Int32) (v2 : Int32) (v4 : Int32) (I : zI) (J : zJ) (hv0 : U v0) (o : Int32 × zI × zJ) (hf : j_X8_scanToken_90 v0 v1 v2 v4 I R J = some o) : zw_FR U (o.2.1) (I) (o.2.2) (J) := by
  have hF : zw_FR U I I J J := zw_FR.rf
  unfold j_X8_scanToken_90 at hf
  obtain ⟨g36, hf⟩ := zw_gcE hf (by decide)
  obtain ⟨q37, hq37, hf⟩ := zw_bdE hf
  have hF := (fr_X8_keepInt U hU v0 v1 v2 v4 I J hv0 _ hq37).tr hF
  cases hf
  exact hF
def zp_X8_scanToken_18 (I : zI) (J : zJ) (o : (Int32) ⊕ (Int32)) : zI × zJ := match o with | .inl t => (I, J) | .inr r => (I, J)
theorem fr_j_X8_scanToken_45 (U : Nat → Prop) {R : zR} (hU : ∀ o j, U o → U (R o j)) (v0 : Nat) (v1 : Int32) (v2 : Int32) (v4 : Int32) (I : zI) (J : zJ) (hv0 : U v0) (o : Int32 × zI × zJ) (hf : j_X8_scanToken_45 v0 v1 v2 v4 I R J = some o) : zw_FR U (o.2.1) (I) (o.2.2) (J) := by
  have hF : zw_FR U I I J J := zw_FR.rf
  unfold j_X8_scanToken_45 at hf
  obtain ⟨g45, hf⟩ := zw_gcE hf (by decide)
  obtain ⟨q46, hq46, hf⟩ := zw_bdE hf
  have hF := (fr_X8_keepWord U hU v0 v1 v2 v4 I J hv0 _ hq46).tr hF
  cases hf
  exact hF
theorem fr_X8_scanToken (U : Nat → Prop) {R : zR} (hU : ∀ o j, U o → U (R o j)) (v0 : Nat) (v1 : Int32) (v2 : Int32) (I : zI) (J : zJ) (hv0 : U v0) (o : Int32 × zI × zJ) (hf : f_X8_scanToken v0 v1 v2 I R J = some o) : zw_FR U (o.2.1) (I) (o.2.2) (J) := by
  have hF : zw_FR U I I J J := zw_FR.rf
  unfold f_X8_scanToken at hf
  obtain ⟨g1, hf⟩ := zw_gcE hf (by decide)
  obtain ⟨q2, hq2, hf⟩ := zw_bdE hf
  obtain ⟨x3, ex3, hf⟩ := zw_letE hf
  obtain ⟨q4, hq4, hf⟩ := zw_bdE hf
  rcases zw_ifE hf with ⟨c5, hf⟩ | ⟨c5, hf⟩
  ·
    obtain ⟨q6, hq6, hf⟩ := zw_bdE hf
    rcases zw_ifE hf with ⟨c7, hf⟩ | ⟨c7, hf⟩
    ·
      rcases zw_ifE hf with ⟨c8, hf⟩ | ⟨c8, hf⟩
      ·
        obtain ⟨q9, hq9, hf⟩ := zw_bdE hf
        have hF := (fr_X8_keepSign U hU v0 v1 v2 I J hv0 _ hq9).tr hF
        cases hf
        exact hF
      ·
        obtain ⟨q16, hq16, hf⟩ := zw_bdE hf
        exact (fr_j_X8_scanToken_135 U hU v0 v1 v2 q16 I J hv0 _ hf).tr hF
    ·
      obtain ⟨q35, hq35, hf⟩ := zw_bdE hf
      exact (fr_j_X8_scanToken_90 U hU v0 v1 v2 q35 I J hv0 _ hf).tr hF
  ·
    obtain ⟨q44, hq44, hf⟩ := zw_bdE hf
    exact (fr_j_X8_scanToken_45 U hU v0 v1 v2 q44 I J hv0 _ hf).tr hF
theorem fr_j_X3_takeRow_68 (U : Nat → Prop) {R : zR} (hU : ∀ o j, U o → U (R o j)) (v1 : Nat) (v2 : Nat) (v3 : Int32) (v4 : Int32) (I : zI) (J : zJ) (hv2 : U v2) (o : zI) (hf : j_X3_takeRow_68 v1 v2 v3 v4 I R J = some o) : zw_FR U (o) (I) (J) (J) := by
  have hF : zw_FR U I I J J := zw_FR.rf
  unfold j_X3_takeRow_68 at hf
  obtain ⟨g16, hf⟩ := zw_gcE hf (by decide)
  obtain ⟨q17, hq17, hf⟩ := zw_bdE hf
  have hF := (fr_X0_addRow U hU v2 v1 (v3 + 1) v4 I J hv2 _ hq17).tr hF
  cases hf
  exact hF
theorem fr_j_X3_takeRow_39 (U : Nat → Prop) {R : zR} (hU : ∀ o j, U o → U (R o j)) (v0 : Nat) (v1 : Nat) (v2 : Nat) (v3 : Int32) (v4 : Int32) (s0 : Nat) (s1 : Nat) (s2 : Int32) (s3 : Int32) (I : zI) (J : zJ) (hv0 : U v0) (hv2 : U v2) (hs0 : U s0) (o : zI) (hf : j_X3_takeRow_39 v0 v1 v2 v3 v4 s0 s1 s2 s3 I R J = some o) : zw_FR U (o) (I) (J) (J) := by
  have hF : zw_FR U I I J J := zw_FR.rf
  unfold j_X3_takeRow_39 at hf
  obtain ⟨g11, hf⟩ := zw_gcE hf (by decide)
  obtain ⟨q12, hq12, hf⟩ := zw_bdE hf
  have hF := (fr_X3_take U hU s0 s1 s2 s3 I J hs0 _ hq12).tr hF
  rcases zw_ifE hf with ⟨c13, hf⟩ | ⟨c13, hf⟩
  ·
    obtain ⟨g14, hf⟩ := zw_gcE hf (by decide)
    rcases zw_ifE hf with ⟨c15, hf⟩ | ⟨c15, hf⟩
    ·
      exact (fr_j_X3_takeRow_68 U hU v1 v2 v3 v4 q12.2 J hv2 _ hf).tr hF
    ·
      rcases zw_ifE hf with ⟨c18, hf⟩ | ⟨c18, hf⟩
      ·
        exact (fr_j_X3_takeRow_68 U hU v1 v2 v3 v4 q12.2 J hv2 _ hf).tr hF
      ·
        obtain ⟨g19, hf⟩ := zw_gcE hf (by decide)
        obtain ⟨q20, hq20, hf⟩ := zw_bdE hf
        have hF := (fr_X3_noteLater U hU v0 5 v3 q12.2 J hv0 _ hq20).tr hF
        exact (fr_j_X3_takeRow_68 U hU v1 v2 v3 v4 q20 J hv2 _ hf).tr hF
  ·
    cases hf
    exact hF
theorem fr_X3_takeRow (U : Nat → Prop) {R : zR} (hU : ∀ o j, U o → U (R o j)) (v0 : Nat) (v1 : Nat) (v2 : Nat) (I : zI) (J : zJ) (hv0 : U v0) (hv2 : U v2) (o : zI) (hf : f_X3_takeRow v0 v1 v2 I R J = some o) : zw_FR U (o) (I) (J) (J) := by
  have hF : zw_FR U I I J J := zw_FR.rf
  unfold f_X3_takeRow at hf
  obtain ⟨g1, hf⟩ := zw_gcE hf (by decide)
  obtain ⟨g2, hf⟩ := zw_gcE hf (by decide)
  obtain ⟨g3, hf⟩ := zw_gcE hf (by decide)
  obtain ⟨i4, hf⟩ := zw_inE hf
  obtain ⟨x5, ex5, hf⟩ := zw_letE hf
  obtain ⟨g6, hf⟩ := zw_gcE hf (by decide)
  obtain ⟨i7, hf⟩ := zw_inE hf
  obtain ⟨x8, ex8, hf⟩ := zw_letE hf
  obtain ⟨g9, hf⟩ := zw_gcE hf (by decide)
  rcases zw_ifE hf with ⟨c10, hf⟩ | ⟨c10, hf⟩
  ·
    exact (fr_j_X3_takeRow_39 U hU v0 v1 v2 x5 x8 v0 v1 4 0 I J hv0 hv2 hv0 _ hf).tr hF
  ·
    exact (fr_j_X3_takeRow_39 U hU v0 v1 v2 x5 x8 v0 v1 4 1 I J hv0 hv2 hv0 _ hf).tr hF
def zp_X8_scan_6 (I : zI) (J : zJ) (o : (Int32 × Int32 × Int32 × zI × zJ) ⊕ (zI × zJ)) : zI × zJ := match o with | .inl t => (t.2.2.2.1, t.2.2.2.2) | .inr r => (r.1, r.2)
theorem fr_j_X8_scan_83_6 (U : Nat → Prop) {R : zR} (hU : ∀ o j, U o → U (R o j)) (v0 : Nat) (v1 : Int32) (v3 : Int32) (s0 : Int32) (I : zI) (J : zJ)  (o : (Int32 × Int32 × Int32 × zI × zJ) ⊕ (zI × zJ)) (hf : j_X8_scan_83_6 v0 v1 v3 s0 I R J = some o) : zw_FR U (zp_X8_scan_6 I J o).1 (I) (zp_X8_scan_6 I J o).2 (J) := by
  have hF : zw_FR U I I J J := zw_FR.rf
  unfold j_X8_scan_83_6 at hf
  obtain ⟨x19, ex19, hf⟩ := zw_letE hf
  cases hf
  exact hF
theorem fr_j_X8_scan_82_6 (U : Nat → Prop) {R : zR} (hU : ∀ o j, U o → U (R o j)) (v0 : Nat) (v1 : Int32) (v3 : Int32) (I : zI) (J : zJ)  (o : (Int32 × Int32 × Int32 × zI × zJ) ⊕ (zI × zJ)) (hf : j_X8_scan_82_6 v0 v1 v3 I R J = some o) : zw_FR U (zp_X8_scan_6 I J o).1 (I) (zp_X8_scan_6 I J o).2 (J) := by
  have hF : zw_FR U I I J J := zw_FR.rf
  unfold j_X8_scan_82_6 at hf
  exact (fr_j_X8_scan_83_6 U hU v0 v1 v3 0 I J  _ hf).tr hF
theorem fr_j_X8_scan_59_6 (U : Nat → Prop) {R : zR} (hU : ∀ o j, U o → U (R o j)) (v0 : Nat) (v1 : Int32) (v3 : Int32) (I : zI) (J : zJ)  (o : (Int32 × Int32 × Int32 × zI × zJ) ⊕ (zI × zJ)) (hf : j_X8_scan_59_6 v0 v1 v3 I R J = some o) : zw_FR U (zp_X8_scan_6 I J o).1 (I) (zp_X8_scan_6 I J o).2 (J) := by
  have hF : zw_FR U I I J J := zw_FR.rf
  unfold j_X8_scan_59_6 at hf
  obtain ⟨g15, hf⟩ := zw_gcE hf (by decide)
  obtain ⟨g16, hf⟩ := zw_gcE hf (by decide)
  obtain ⟨i17, hf⟩ := zw_inE hf
  rcases zw_ifE hf with ⟨c18, hf⟩ | ⟨c18, hf⟩
  ·
    exact (fr_j_X8_scan_82_6 U hU v0 v1 v3 I J  _ hf).tr hF
  ·
    obtain ⟨i20, hf⟩ := zw_inE hf
    rcases zw_ifE hf with ⟨c21, hf⟩ | ⟨c21, hf⟩
    ·
      exact (fr_j_X8_scan_82_6 U hU v0 v1 v3 I J  _ hf).tr hF
    ·
      exact (fr_j_X8_scan_83_6 U hU v0 v1 v3 1 I J  _ hf).tr hF
theorem fr_s_X8_scan_6 (U : Nat → Prop) {R : zR} (hU : ∀ o j, U o → U (R o j)) (v0 : Nat)  (hv0 : U v0) (s : Int32 × Int32 × Int32 × zI × zJ) (o : (Int32 × Int32 × Int32 × zI × zJ) ⊕ (zI × zJ)) (hf : s_X8_scan_6 v0 R s = some o) : zw_FR U (zp_X8_scan_6 s.2.2.2.1 s.2.2.2.2 o).1 (s.2.2.2.1) (zp_X8_scan_6 s.2.2.2.1 s.2.2.2.2 o).2 (s.2.2.2.2) := by
  have hF : zw_FR U (s.2.2.2.1) (s.2.2.2.1) (s.2.2.2.2) (s.2.2.2.2) := zw_FR.rf
  unfold s_X8_scan_6 at hf
  rcases zw_ifE hf with ⟨c1, hf⟩ | ⟨c1, hf⟩
  ·
    cases hf
    exact hF
  ·
    rcases zw_ifE hf with ⟨c2, hf⟩ | ⟨c2, hf⟩
    ·
      cases hf
      exact hF
    ·
      obtain ⟨g3, hf⟩ := zw_gcE hf (by decide)
      obtain ⟨q4, hq4, hf⟩ := zw_bdE hf
      obtain ⟨g5, hf⟩ := zw_gcE hf (by decide)
      obtain ⟨i6, hf⟩ := zw_inE hf
      obtain ⟨I7, eI7, hf⟩ := zw_letE hf
      have hF := hF.wI eI7 (hU _ _ hv0)
      obtain ⟨g8, hf⟩ := zw_gcE hf (by decide)
      obtain ⟨i9, hf⟩ := zw_inE hf
      obtain ⟨J10, eJ10, hf⟩ := zw_letE hf
      have hF := hF.wJ eJ10 (hU _ _ hv0)
      obtain ⟨g11, hf⟩ := zw_gcE hf (by decide)
      obtain ⟨i12, hf⟩ := zw_inE hf
      obtain ⟨I13, eI13, hf⟩ := zw_letE hf
      have hF := hF.wI eI13 (hU _ _ hv0)
      rcases zw_ifE hf with ⟨c14, hf⟩ | ⟨c14, hf⟩
      ·
        exact (fr_j_X8_scan_59_6 U hU v0 q4 s.2.2.1 I13 J10  _ hf).tr hF
      ·
        obtain ⟨q22, hq22, hf⟩ := zw_bdE hf
        have hF := (fr_X8_scanToken U hU v0 s.2.2.1 q4 I13 J10 hv0 _ hq22).tr hF
        exact (fr_j_X8_scan_59_6 U hU v0 q22.1 s.2.2.1 q22.2.1 q22.2.2  _ hf).tr hF
theorem fr_s_X8_scan_6_lp (U : Nat → Prop) {R : zR} (hU : ∀ o j, U o → U (R o j)) (v0 : Nat)  (hv0 : U v0) (n : Nat) (s : Int32 × Int32 × Int32 × zI × zJ) (r : zI × zJ) (h : zw_it (s_X8_scan_6 v0 R) n s = some r) : zw_FR U (zp_X8_scan_6 (s.2.2.2.1) (s.2.2.2.2) (.inr r)).1 (s.2.2.2.1) (zp_X8_scan_6 (s.2.2.2.1) (s.2.2.2.2) (.inr r)).2 (s.2.2.2.2) :=
  zw_itF (A := fun t t0 : Int32 × Int32 × Int32 × zI × zJ => zw_FR U (t.2.2.2.1) (t0.2.2.2.1) (t.2.2.2.2) (t0.2.2.2.2)) (Q := fun (r : zI × zJ) (t : Int32 × Int32 × Int32 × zI × zJ) => zw_FR U (zp_X8_scan_6 (t.2.2.2.1) (t.2.2.2.2) (.inr r)).1 (t.2.2.2.1) (zp_X8_scan_6 (t.2.2.2.1) (t.2.2.2.2) (.inr r)).2 (t.2.2.2.2)) (fun s o h1 => by
    have h2 := fr_s_X8_scan_6 U hU v0 hv0 s o h1
    cases o with
    | inl t => exact h2
    | inr r => exact h2) (fun h1 h2 => zw_FR.tr h2 h1) n s r h
theorem fr_X8_scan (U : Nat → Prop) {R : zR} (hU : ∀ o j, U o → U (R o j)) (v0 : Nat) (I : zI) (J : zJ) (hv0 : U v0) (o : zI × zJ) (hf : f_X8_scan v0 I R J = some o) : zw_FR U (o.1) (I) (o.2) (J) := by
  have hF : zw_FR U I I J J := zw_FR.rf
  unfold f_X8_scan at hf
  obtain ⟨q23, hq23, hf⟩ := zw_bdE hf
  have hF := (fr_s_X8_scan_6_lp U hU v0 hv0 _ _ _ hq23).tr hF
  cases hf
  exact hF
def zp_X3_readDrawing_13 (I : zI) (J : zJ) (o : (Int32 × Int32 × Int32 × zI) ⊕ (Int32 × zI)) : zI × zJ := match o with | .inl t => (t.2.2.2, J) | .inr r => (r.2, J)
theorem fr_j_X3_readDrawing_55_13 (U : Nat → Prop) {R : zR} (hU : ∀ o j, U o → U (R o j)) (v0 : Nat) (v1 : Nat) (v2 : Nat) (v3 : Int32) (v5 : Int32) (s0 : Int32) (I : zI) (J : zJ)  (o : (Int32 × Int32 × Int32 × zI) ⊕ (Int32 × zI)) (hf : j_X3_readDrawing_55_13 v0 v1 v2 v3 v5 s0 I R J = some o) : zw_FR U (zp_X3_readDrawing_13 I J o).1 (I) (zp_X3_readDrawing_13 I J o).2 (J) := by
  have hF : zw_FR U I I J J := zw_FR.rf
  unfold j_X3_readDrawing_55_13 at hf
  obtain ⟨x13, ex13, hf⟩ := zw_letE hf
  cases hf
  exact hF
theorem fr_s_X3_readDrawing_13 (U : Nat → Prop) {R : zR} (hU : ∀ o j, U o → U (R o j)) (v0 : Nat) (v1 : Nat) (v2 : Nat) (J : zJ) (hv0 : U v0) (hv2 : U v2) (s : Int32 × Int32 × Int32 × zI) (o : (Int32 × Int32 × Int32 × zI) ⊕ (Int32 × zI)) (hf : s_X3_readDrawing_13 v0 v1 v2 R J s = some o) : zw_FR U (zp_X3_readDrawing_13 s.2.2.2 J o).1 (s.2.2.2) (zp_X3_readDrawing_13 s.2.2.2 J o).2 (J) := by
  have hF : zw_FR U (s.2.2.2) (s.2.2.2) (J) (J) := zw_FR.rf
  unfold s_X3_readDrawing_13 at hf
  rcases zw_ifE hf with ⟨c3, hf⟩ | ⟨c3, hf⟩
  ·
    cases hf
    exact hF
  ·
    rcases zw_ifE hf with ⟨c4, hf⟩ | ⟨c4, hf⟩
    ·
      cases hf
      exact hF
    ·
      obtain ⟨g5, hf⟩ := zw_gcE hf (by decide)
      obtain ⟨g6, hf⟩ := zw_gcE hf (by decide)
      obtain ⟨g7, hf⟩ := zw_gcE hf (by decide)
      obtain ⟨i8, hf⟩ := zw_inE hf
      obtain ⟨x9, ex9, hf⟩ := zw_letE hf
      obtain ⟨q10, hq10, hf⟩ := zw_bdE hf
      have hF := (fr_X3_takeRow U hU v0 v1 v2 s.2.2.2 J hv0 hv2 _ hq10).tr hF
      obtain ⟨q11, hq11, hf⟩ := zw_bdE hf
      rcases zw_ifE hf with ⟨c12, hf⟩ | ⟨c12, hf⟩
      ·
        exact (fr_j_X3_readDrawing_55_13 U hU v0 v1 v2 x9 s.2.2.1 0 q10 J  _ hf).tr hF
      ·
        exact (fr_j_X3_readDrawing_55_13 U hU v0 v1 v2 x9 s.2.2.1 1 q10 J  _ hf).tr hF
theorem fr_s_X3_readDrawing_13_lp (U : Nat → Prop) {R : zR} (hU : ∀ o j, U o → U (R o j)) (v0 : Nat) (v1 : Nat) (v2 : Nat) (J : zJ) (hv0 : U v0) (hv2 : U v2) (n : Nat) (s : Int32 × Int32 × Int32 × zI) (r : Int32 × zI) (h : zw_it (s_X3_readDrawing_13 v0 v1 v2 R J) n s = some r) : zw_FR U (zp_X3_readDrawing_13 (s.2.2.2) (J) (.inr r)).1 (s.2.2.2) (zp_X3_readDrawing_13 (s.2.2.2) (J) (.inr r)).2 (J) :=
  zw_itF (A := fun t t0 : Int32 × Int32 × Int32 × zI => zw_FR U (t.2.2.2) (t0.2.2.2) (J) (J)) (Q := fun (r : Int32 × zI) (t : Int32 × Int32 × Int32 × zI) => zw_FR U (zp_X3_readDrawing_13 (t.2.2.2) (J) (.inr r)).1 (t.2.2.2) (zp_X3_readDrawing_13 (t.2.2.2) (J) (.inr r)).2 (J)) (fun s o h1 => by
    have h2 := fr_s_X3_readDrawing_13 U hU v0 v1 v2 J hv0 hv2 s o h1
    cases o with
    | inl t => exact h2
    | inr r => exact h2) (fun h1 h2 => zw_FR.tr h2 h1) n s r h
theorem fr_j_X3_readDrawing_63 (U : Nat → Prop) {R : zR} (hU : ∀ o j, U o → U (R o j)) (v0 : Nat) (v1 : Nat) (v2 : Nat) (v3 : Int32) (I : zI) (J : zJ) (hv0 : U v0) (hv2 : U v2) (o : zI × zJ) (hf : j_X3_readDrawing_63 v0 v1 v2 v3 I R J = some o) : zw_FR U (o.1) (I) (o.2) (J) := by
  have hF : zw_FR U I I J J := zw_FR.rf
  unfold j_X3_readDrawing_63 at hf
  obtain ⟨g15, hf⟩ := zw_gcE hf (by decide)
  obtain ⟨q16, hq16, hf⟩ := zw_bdE hf
  have hF := (fr_X3_take U hU v0 v1 5 1 I J hv0 _ hq16).tr hF
  obtain ⟨g17, hf⟩ := zw_gcE hf (by decide)
  obtain ⟨q18, hq18, hf⟩ := zw_bdE hf
  have hF := (fr_X0_measureUp U hU v2 q16.2 J hv2 _ hq18).tr hF
  rcases zw_ifE hf with ⟨c19, hf⟩ | ⟨c19, hf⟩
  ·
    cases hf
    exact hF
  ·
    obtain ⟨q20, hq20, hf⟩ := zw_bdE hf
    have hF := (fr_X3_noteLater U hU v0 5 v3 q18 J hv0 _ hq20).tr hF
    cases hf
    exact hF
theorem fr_X3_readDrawing (U : Nat → Prop) {R : zR} (hU : ∀ o j, U o → U (R o j)) (v0 : Nat) (v1 : Nat) (v2 : Nat) (I : zI) (J : zJ) (hv0 : U v0) (hv2 : U v2) (o : zI × zJ) (hf : f_X3_readDrawing v0 v1 v2 I R J = some o) : zw_FR U (o.1) (I) (o.2) (J) := by
  have hF : zw_FR U I I J J := zw_FR.rf
  unfold f_X3_readDrawing at hf
  obtain ⟨g1, hf⟩ := zw_gcE hf (by decide)
  obtain ⟨q2, hq2, hf⟩ := zw_bdE hf
  have hF := (fr_X3_takeName U hU v0 v1 I J hv0 _ hq2).tr hF
  obtain ⟨q14, hq14, hf⟩ := zw_bdE hf
  have hF := (fr_s_X3_readDrawing_13_lp U hU v0 v1 v2 q2.2 hv0 hv2 _ _ _ hq14).tr hF
  exact (fr_j_X3_readDrawing_63 U hU v0 v1 v2 q14.1 q14.2 q2.2 hv0 hv2 _ hf).tr hF
theorem fr_j_X3_readCut_21 (U : Nat → Prop) {R : zR} (hU : ∀ o j, U o → U (R o j)) (v0 : Nat) (v1 : Nat) (s0 : Nat) (s1 : Nat) (s2 : Int32) (s3 : Int32) (I : zI) (J : zJ) (hv0 : U v0) (hs0 : U s0) (o : zI × zJ) (hf : j_X3_readCut_21 v0 v1 s0 s1 s2 s3 I R J = some o) : zw_FR U (o.1) (I) (o.2) (J) := by
  have hF : zw_FR U I I J J := zw_FR.rf
  unfold j_X3_readCut_21 at hf
  obtain ⟨g4, hf⟩ := zw_gcE hf (by decide)
  obtain ⟨q5, hq5, hf⟩ := zw_bdE hf
  have hF := (fr_X3_take U hU s0 s1 s2 s3 I J hs0 _ hq5).tr hF
  rcases zw_ifE hf with ⟨c6, hf⟩ | ⟨c6, hf⟩
  ·
    cases hf
    exact hF
  ·
    obtain ⟨g7, hf⟩ := zw_gcE hf (by decide)
    obtain ⟨g8, hf⟩ := zw_gcE hf (by decide)
    obtain ⟨q9, hq9, hf⟩ := zw_bdE hf
    obtain ⟨hF2, uq9⟩ := fr_X1_addCut U hU (R v0 2) q5.2 J (hU _ _ hv0) _ hq9
    have hF := hF2.tr hF
    obtain ⟨q10, hq10, hf⟩ := zw_bdE hf
    have hF := (fr_X3_readDrawing U hU v0 v1 q9.1 q9.2 J hv0 uq9 _ hq10).tr hF
    cases hf
    exact hF
theorem fr_X3_readCut (U : Nat → Prop) {R : zR} (hU : ∀ o j, U o → U (R o j)) (v0 : Nat) (v1 : Nat) (I : zI) (J : zJ) (hv0 : U v0) (o : zI × zJ) (hf : f_X3_readCut v0 v1 I R J = some o) : zw_FR U (o.1) (I) (o.2) (J) := by
  have hF : zw_FR U I I J J := zw_FR.rf
  unfold f_X3_readCut at hf
  obtain ⟨g1, hf⟩ := zw_gcE hf (by decide)
  obtain ⟨g2, hf⟩ := zw_gcE hf (by decide)
  rcases zw_ifE hf with ⟨c3, hf⟩ | ⟨c3, hf⟩
  ·
    exact (fr_j_X3_readCut_21 U hU v0 v1 v0 v1 19 0 I J hv0 hv0 _ hf).tr hF
  ·
    exact (fr_j_X3_readCut_21 U hU v0 v1 v0 v1 19 1 I J hv0 hv0 _ hf).tr hF
theorem fr_j_X3_readRough_20 (U : Nat → Prop) {R : zR} (hU : ∀ o j, U o → U (R o j)) (v0 : Nat) (v1 : Nat) (s0 : Nat) (s1 : Nat) (s2 : Int32) (s3 : Int32) (I : zI) (J : zJ) (hv0 : U v0) (hs0 : U s0) (o : zI × zJ) (hf : j_X3_readRough_20 v0 v1 s0 s1 s2 s3 I R J = some o) : zw_FR U (o.1) (I) (o.2) (J) := by
  have hF : zw_FR U I I J J := zw_FR.rf
  unfold j_X3_readRough_20 at hf
  obtain ⟨g4, hf⟩ := zw_gcE hf (by decide)
  obtain ⟨q5, hq5, hf⟩ := zw_bdE hf
  have hF := (fr_X3_take U hU s0 s1 s2 s3 I J hs0 _ hq5).tr hF
  rcases zw_ifE hf with ⟨c6, hf⟩ | ⟨c6, hf⟩
  ·
    cases hf
    exact hF
  ·
    obtain ⟨g7, hf⟩ := zw_gcE hf (by decide)
    obtain ⟨g8, hf⟩ := zw_gcE hf (by decide)
    obtain ⟨q9, hq9, hf⟩ := zw_bdE hf
    obtain ⟨hF2, uq9⟩ := fr_X1_addRough U hU (R v0 2) q5.2 J (hU _ _ hv0) _ hq9
    have hF := hF2.tr hF
    obtain ⟨q10, hq10, hf⟩ := zw_bdE hf
    have hF := (fr_X3_readDrawing U hU v0 v1 q9.1 q9.2 J hv0 uq9 _ hq10).tr hF
    cases hf
    exact hF
theorem fr_X3_readRough (U : Nat → Prop) {R : zR} (hU : ∀ o j, U o → U (R o j)) (v0 : Nat) (v1 : Nat) (I : zI) (J : zJ) (hv0 : U v0) (o : zI × zJ) (hf : f_X3_readRough v0 v1 I R J = some o) : zw_FR U (o.1) (I) (o.2) (J) := by
  have hF : zw_FR U I I J J := zw_FR.rf
  unfold f_X3_readRough at hf
  obtain ⟨g1, hf⟩ := zw_gcE hf (by decide)
  obtain ⟨g2, hf⟩ := zw_gcE hf (by decide)
  rcases zw_ifE hf with ⟨c3, hf⟩ | ⟨c3, hf⟩
  ·
    exact (fr_j_X3_readRough_20 U hU v0 v1 v0 v1 20 0 I J hv0 hv0 _ hf).tr hF
  ·
    exact (fr_j_X3_readRough_20 U hU v0 v1 v0 v1 20 1 I J hv0 hv0 _ hf).tr hF
def zp_X3_readLiteral_4 (I : zI) (J : zJ) (o : (Int32 × Int32 × zI) ⊕ (Int32 × zI)) : zI × zJ := match o with | .inl t => (t.2.2, J) | .inr r => (r.2, J)
theorem fr_j_X3_readLiteral_39_4 (U : Nat → Prop) {R : zR} (hU : ∀ o j, U o → U (R o j)) (v0 : Nat) (v1 : Nat) (v3 : Int32) (s0 : Int32) (I : zI) (J : zJ)  (o : (Int32 × Int32 × zI) ⊕ (Int32 × zI)) (hf : j_X3_readLiteral_39_4 v0 v1 v3 s0 I R J = some o) : zw_FR U (zp_X3_readLiteral_4 I J o).1 (I) (zp_X3_readLiteral_4 I J o).2 (J) := by
  have hF : zw_FR U I I J J := zw_FR.rf
  unfold j_X3_readLiteral_39_4 at hf
  obtain ⟨x7, ex7, hf⟩ := zw_letE hf
  cases hf
  exact hF
theorem fr_s_X3_readLiteral_4 (U : Nat → Prop) {R : zR} (hU : ∀ o j, U o → U (R o j)) (v0 : Nat) (v1 : Nat) (J : zJ) (hv0 : U v0) (s : Int32 × Int32 × zI) (o : (Int32 × Int32 × zI) ⊕ (Int32 × zI)) (hf : s_X3_readLiteral_4 v0 v1 R J s = some o) : zw_FR U (zp_X3_readLiteral_4 s.2.2 J o).1 (s.2.2) (zp_X3_readLiteral_4 s.2.2 J o).2 (J) := by
  have hF : zw_FR U (s.2.2) (s.2.2) (J) (J) := zw_FR.rf
  unfold s_X3_readLiteral_4 at hf
  rcases zw_ifE hf with ⟨c1, hf⟩ | ⟨c1, hf⟩
  ·
    cases hf
    exact hF
  ·
    obtain ⟨g2, hf⟩ := zw_gcE hf (by decide)
    obtain ⟨q3, hq3, hf⟩ := zw_bdE hf
    rcases zw_ifE hf with ⟨c4, hf⟩ | ⟨c4, hf⟩
    ·
      cases hf
      exact hF
    ·
      obtain ⟨q5, hq5, hf⟩ := zw_bdE hf
      have hF := (fr_X3_take U hU v0 v1 27 1 s.2.2 J hv0 _ hq5).tr hF
      rcases zw_ifE hf with ⟨c6, hf⟩ | ⟨c6, hf⟩
      ·
        exact (fr_j_X3_readLiteral_39_4 U hU v0 v1 s.2.1 0 q5.2 J  _ hf).tr hF
      ·
        exact (fr_j_X3_readLiteral_39_4 U hU v0 v1 s.2.1 1 q5.2 J  _ hf).tr hF
theorem fr_s_X3_readLiteral_4_lp (U : Nat → Prop) {R : zR} (hU : ∀ o j, U o → U (R o j)) (v0 : Nat) (v1 : Nat) (J : zJ) (hv0 : U v0) (n : Nat) (s : Int32 × Int32 × zI) (r : Int32 × zI) (h : zw_it (s_X3_readLiteral_4 v0 v1 R J) n s = some r) : zw_FR U (zp_X3_readLiteral_4 (s.2.2) (J) (.inr r)).1 (s.2.2) (zp_X3_readLiteral_4 (s.2.2) (J) (.inr r)).2 (J) :=
  zw_itF (A := fun t t0 : Int32 × Int32 × zI => zw_FR U (t.2.2) (t0.2.2) (J) (J)) (Q := fun (r : Int32 × zI) (t : Int32 × Int32 × zI) => zw_FR U (zp_X3_readLiteral_4 (t.2.2) (J) (.inr r)).1 (t.2.2) (zp_X3_readLiteral_4 (t.2.2) (J) (.inr r)).2 (J)) (fun s o h1 => by
    have h2 := fr_s_X3_readLiteral_4 U hU v0 v1 J hv0 s o h1
    cases o with
    | inl t => exact h2
    | inr r => exact h2) (fun h1 h2 => zw_FR.tr h2 h1) n s r h
theorem fr_j_X3_readLiteral_78 (U : Nat → Prop) {R : zR} (hU : ∀ o j, U o → U (R o j)) (v0 : Nat) (v1 : Nat) (v2 : Int32) (v3 : Int32) (s0 : Nat) (s1 : Nat) (s2 : Int32) (I : zI) (J : zJ) (hv0 : U v0) (hs0 : U s0) (o : zI) (hf : j_X3_readLiteral_78 v0 v1 v2 v3 s0 s1 s2 I R J = some o) : zw_FR U (o) (I) (J) (J) := by
  have hF : zw_FR U I I J J := zw_FR.rf
  unfold j_X3_readLiteral_78 at hf
  obtain ⟨g13, hf⟩ := zw_gcE hf (by decide)
  obtain ⟨q14, hq14, hf⟩ := zw_bdE hf
  have hF := (fr_X3_take U hU s0 s1 s2 1 I J hs0 _ hq14).tr hF
  obtain ⟨g15, hf⟩ := zw_gcE hf (by decide)
  obtain ⟨q16, hq16, hf⟩ := zw_bdE hf
  have hF := (fr_r_readSum U hU 8 v0 v1 0 q14.2 J hv0 _ hq16).tr hF
  obtain ⟨g17, hf⟩ := zw_gcE hf (by decide)
  obtain ⟨q18, hq18, hf⟩ := zw_bdE hf
  have hF := (fr_X1_addCode U hU (R v0 2) v3 0 q16 J (hU _ _ hv0) _ hq18).tr hF
  rcases zw_ifE hf with ⟨c19, hf⟩ | ⟨c19, hf⟩
  ·
    cases hf
    exact hF
  ·
    obtain ⟨q20, hq20, hf⟩ := zw_bdE hf
    have hF := (fr_X1_addCode U hU (R v0 2) 27 0 q18 J (hU _ _ hv0) _ hq20).tr hF
    cases hf
    exact hF
theorem fr_j_X3_readLiteral_76 (U : Nat → Prop) {R : zR} (hU : ∀ o j, U o → U (R o j)) (v0 : Nat) (v1 : Nat) (v2 : Int32) (v3 : Int32) (s0 : Nat) (s1 : Nat) (I : zI) (J : zJ) (hv0 : U v0) (hs0 : U s0) (o : zI) (hf : j_X3_readLiteral_76 v0 v1 v2 v3 s0 s1 I R J = some o) : zw_FR U (o) (I) (J) (J) := by
  have hF : zw_FR U I I J J := zw_FR.rf
  unfold j_X3_readLiteral_76 at hf
  exact (fr_j_X3_readLiteral_78 U hU v0 v1 v2 v3 s0 s1 16 I J hv0 hs0 _ hf).tr hF
theorem fr_j_X3_readLiteral_46 (U : Nat → Prop) {R : zR} (hU : ∀ o j, U o → U (R o j)) (v0 : Nat) (v1 : Nat) (v2 : Int32) (I : zI) (J : zJ) (hv0 : U v0) (o : zI) (hf : j_X3_readLiteral_46 v0 v1 v2 I R J = some o) : zw_FR U (o) (I) (J) (J) := by
  have hF : zw_FR U I I J J := zw_FR.rf
  unfold j_X3_readLiteral_46 at hf
  obtain ⟨g9, hf⟩ := zw_gcE hf (by decide)
  obtain ⟨q10, hq10, hf⟩ := zw_bdE hf
  have hF := (fr_r_readSum U hU 8 v0 v1 0 I J hv0 _ hq10).tr hF
  obtain ⟨q11, hq11, hf⟩ := zw_bdE hf
  rcases zw_ifE hf with ⟨c12, hf⟩ | ⟨c12, hf⟩
  ·
    exact (fr_j_X3_readLiteral_76 U hU v0 v1 v2 q11 v0 v1 q10 J hv0 hv0 _ hf).tr hF
  ·
    rcases zw_ifE hf with ⟨c21, hf⟩ | ⟨c21, hf⟩
    ·
      exact (fr_j_X3_readLiteral_76 U hU v0 v1 v2 q11 v0 v1 q10 J hv0 hv0 _ hf).tr hF
    ·
      exact (fr_j_X3_readLiteral_78 U hU v0 v1 v2 q11 v0 v1 q11 q10 J hv0 hv0 _ hf).tr hF
theorem fr_X3_readLiteral (U : Nat → Prop) {R : zR} (hU : ∀ o j, U o → U (R o j)) (v0 : Nat) (v1 : Nat) (I : zI) (J : zJ) (hv0 : U v0) (o : zI) (hf : f_X3_readLiteral v0 v1 I R J = some o) : zw_FR U (o) (I) (J) (J) := by
  have hF : zw_FR U I I J J := zw_FR.rf
  unfold f_X3_readLiteral at hf
  obtain ⟨q8, hq8, hf⟩ := zw_bdE hf
  have hF := (fr_s_X3_readLiteral_4_lp U hU v0 v1 J hv0 _ _ _ hq8).tr hF
  exact (fr_j_X3_readLiteral_46 U hU v0 v1 q8.1 q8.2 J hv0 _ hf).tr hF
def zp_X3_readCondition_7 (I : zI) (J : zJ) (o : (Int32 × Int32 × Int32 × zI) ⊕ (zI)) : zI × zJ := match o with | .inl t => (t.2.2.2, J) | .inr r => (r, J)
def zp_X3_readCondition_27 (I : zI) (J : zJ) (o : (Int32 × zI) ⊕ (zI)) : zI × zJ := match o with | .inl t => (t.2, J) | .inr r => (r, J)
theorem fr_s_X3_readCondition_27 (U : Nat → Prop) {R : zR} (hU : ∀ o j, U o → U (R o j)) (v0 : Nat) (v1 : Nat) (v2 : Int32) (v4 : Int32) (J : zJ) (hv0 : U v0) (s : Int32 × zI) (o : (Int32 × zI) ⊕ (zI)) (hf : s_X3_readCondition_27 v0 v1 v2 v4 R J s = some o) : zw_FR U (zp_X3_readCondition_27 s.2 J o).1 (s.2) (zp_X3_readCondition_27 s.2 J o).2 (J) := by
  have hF : zw_FR U (s.2) (s.2) (J) (J) := zw_FR.rf
  unfold s_X3_readCondition_27 at hf
  rcases zw_ifE hf with ⟨c5, hf⟩ | ⟨c5, hf⟩
  ·
    cases hf
    exact hF
  ·
    obtain ⟨g6, hf⟩ := zw_gcE hf (by decide)
    obtain ⟨q7, hq7, hf⟩ := zw_bdE hf
    rcases zw_ifE hf with ⟨c8, hf⟩ | ⟨c8, hf⟩
    ·
      cases hf
      exact hF
    ·
      obtain ⟨q9, hq9, hf⟩ := zw_bdE hf
      have hF := (fr_X3_take U hU v0 v1 26 1 s.2 J hv0 _ hq9).tr hF
      obtain ⟨q10, hq10, hf⟩ := zw_bdE hf
      have hF := (fr_X3_readLiteral U hU v0 v1 q9.2 J hv0 _ hq10).tr hF
      obtain ⟨g11, hf⟩ := zw_gcE hf (by decide)
      obtain ⟨q12, hq12, hf⟩ := zw_bdE hf
      have hF := (fr_X1_addCode U hU (R v0 2) 26 0 q10 J (hU _ _ hv0) _ hq12).tr hF
      obtain ⟨x13, ex13, hf⟩ := zw_letE hf
      cases hf
      exact hF
theorem fr_s_X3_readCondition_27_lp (U : Nat → Prop) {R : zR} (hU : ∀ o j, U o → U (R o j)) (v0 : Nat) (v1 : Nat) (v2 : Int32) (v4 : Int32) (J : zJ) (hv0 : U v0) (n : Nat) (s : Int32 × zI) (r : zI) (h : zw_it (s_X3_readCondition_27 v0 v1 v2 v4 R J) n s = some r) : zw_FR U (zp_X3_readCondition_27 (s.2) (J) (.inr r)).1 (s.2) (zp_X3_readCondition_27 (s.2) (J) (.inr r)).2 (J) :=
  zw_itF (A := fun t t0 : Int32 × zI => zw_FR U (t.2) (t0.2) (J) (J)) (Q := fun (r : zI) (t : Int32 × zI) => zw_FR U (zp_X3_readCondition_27 (t.2) (J) (.inr r)).1 (t.2) (zp_X3_readCondition_27 (t.2) (J) (.inr r)).2 (J)) (fun s o h1 => by
    have h2 := fr_s_X3_readCondition_27 U hU v0 v1 v2 v4 J hv0 s o h1
    cases o with
    | inl t => exact h2
    | inr r => exact h2) (fun h1 h2 => zw_FR.tr h2 h1) n s r h
theorem fr_j_X3_readCondition_117_7 (U : Nat → Prop) {R : zR} (hU : ∀ o j, U o → U (R o j)) (v0 : Nat) (v1 : Nat) (v2 : Int32) (v4 : Int32) (s0 : Int32) (I : zI) (J : zJ)  (o : (Int32 × Int32 × Int32 × zI) ⊕ (zI)) (hf : j_X3_readCondition_117_7 v0 v1 v2 v4 s0 I R J = some o) : zw_FR U (zp_X3_readCondition_7 I J o).1 (I) (zp_X3_readCondition_7 I J o).2 (J) := by
  have hF : zw_FR U I I J J := zw_FR.rf
  unfold j_X3_readCondition_117_7 at hf
  obtain ⟨x19, ex19, hf⟩ := zw_letE hf
  cases hf
  exact hF
theorem fr_j_X3_readCondition_116_7 (U : Nat → Prop) {R : zR} (hU : ∀ o j, U o → U (R o j)) (v0 : Nat) (v1 : Nat) (v2 : Int32) (v4 : Int32) (I : zI) (J : zJ)  (o : (Int32 × Int32 × Int32 × zI) ⊕ (zI)) (hf : j_X3_readCondition_116_7 v0 v1 v2 v4 I R J = some o) : zw_FR U (zp_X3_readCondition_7 I J o).1 (I) (zp_X3_readCondition_7 I J o).2 (J) := by
  have hF : zw_FR U I I J J := zw_FR.rf
  unfold j_X3_readCondition_116_7 at hf
  exact (fr_j_X3_readCondition_117_7 U hU v0 v1 v2 v4 0 I J  _ hf).tr hF
theorem fr_j_X3_readCondition_89_7 (U : Nat → Prop) {R : zR} (hU : ∀ o j, U o → U (R o j)) (v0 : Nat) (v1 : Nat) (v4 : Int32) (I : zI) (J : zJ) (hv0 : U v0) (o : (Int32 × Int32 × Int32 × zI) ⊕ (zI)) (hf : j_X3_readCondition_89_7 v0 v1 v4 I R J = some o) : zw_FR U (zp_X3_readCondition_7 I J o).1 (I) (zp_X3_readCondition_7 I J o).2 (J) := by
  have hF : zw_FR U I I J J := zw_FR.rf
  unfold j_X3_readCondition_89_7 at hf
  obtain ⟨g16, hf⟩ := zw_gcE hf (by decide)
  obtain ⟨q17, hq17, hf⟩ := zw_bdE hf
  rcases zw_ifE hf with ⟨c18, hf⟩ | ⟨c18, hf⟩
  ·
    exact (fr_j_X3_readCondition_116_7 U hU v0 v1 1 v4 I J  _ hf).tr hF
  ·
    obtain ⟨q20, hq20, hf⟩ := zw_bdE hf
    have hF := (fr_X3_take U hU v0 v1 25 1 I J hv0 _ hq20).tr hF
    rcases zw_ifE hf with ⟨c21, hf⟩ | ⟨c21, hf⟩
    ·
      exact (fr_j_X3_readCondition_116_7 U hU v0 v1 1 v4 q20.2 J  _ hf).tr hF
    ·
      exact (fr_j_X3_readCondition_117_7 U hU v0 v1 1 v4 1 q20.2 J  _ hf).tr hF
theorem fr_j_X3_readCondition_75_7 (U : Nat → Prop) {R : zR} (hU : ∀ o j, U o → U (R o j)) (v0 : Nat) (v1 : Nat) (v2 : Int32) (v4 : Int32) (I : zI) (J : zJ) (hv0 : U v0) (o : (Int32 × Int32 × Int32 × zI) ⊕ (zI)) (hf : j_X3_readCondition_75_7 v0 v1 v2 v4 I R J = some o) : zw_FR U (zp_X3_readCondition_7 I J o).1 (I) (zp_X3_readCondition_7 I J o).2 (J) := by
  have hF : zw_FR U I I J J := zw_FR.rf
  unfold j_X3_readCondition_75_7 at hf
  rcases zw_ifE hf with ⟨c15, hf⟩ | ⟨c15, hf⟩
  ·
    exact (fr_j_X3_readCondition_89_7 U hU v0 v1 v4 I J hv0 _ hf).tr hF
  ·
    obtain ⟨g22, hf⟩ := zw_gcE hf (by decide)
    obtain ⟨g23, hf⟩ := zw_gcE hf (by decide)
    obtain ⟨q24, hq24, hf⟩ := zw_bdE hf
    have hF := (fr_X1_addCode U hU (R v0 2) 25 0 I J (hU _ _ hv0) _ hq24).tr hF
    exact (fr_j_X3_readCondition_89_7 U hU v0 v1 v4 q24 J hv0 _ hf).tr hF
theorem fr_s_X3_readCondition_7 (U : Nat → Prop) {R : zR} (hU : ∀ o j, U o → U (R o j)) (v0 : Nat) (v1 : Nat) (J : zJ) (hv0 : U v0) (s : Int32 × Int32 × Int32 × zI) (o : (Int32 × Int32 × Int32 × zI) ⊕ (zI)) (hf : s_X3_readCondition_7 v0 v1 R J s = some o) : zw_FR U (zp_X3_readCondition_7 s.2.2.2 J o).1 (s.2.2.2) (zp_X3_readCondition_7 s.2.2.2 J o).2 (J) := by
  have hF : zw_FR U (s.2.2.2) (s.2.2.2) (J) (J) := zw_FR.rf
  unfold s_X3_readCondition_7 at hf
  rcases zw_ifE hf with ⟨c1, hf⟩ | ⟨c1, hf⟩
  ·
    cases hf
    exact hF
  ·
    rcases zw_ifE hf with ⟨c2, hf⟩ | ⟨c2, hf⟩
    ·
      cases hf
      exact hF
    ·
      obtain ⟨g3, hf⟩ := zw_gcE hf (by decide)
      obtain ⟨q4, hq4, hf⟩ := zw_bdE hf
      have hF := (fr_X3_readLiteral U hU v0 v1 s.2.2.2 J hv0 _ hq4).tr hF
      obtain ⟨q14, hq14, hf⟩ := zw_bdE hf
      have hF := (fr_s_X3_readCondition_27_lp U hU v0 v1 s.1 s.2.2.1 J hv0 _ _ _ hq14).tr hF
      exact (fr_j_X3_readCondition_75_7 U hU v0 v1 s.1 s.2.2.1 q14 J hv0 _ hf).tr hF
theorem fr_s_X3_readCondition_7_lp (U : Nat → Prop) {R : zR} (hU : ∀ o j, U o → U (R o j)) (v0 : Nat) (v1 : Nat) (J : zJ) (hv0 : U v0) (n : Nat) (s : Int32 × Int32 × Int32 × zI) (r : zI) (h : zw_it (s_X3_readCondition_7 v0 v1 R J) n s = some r) : zw_FR U (zp_X3_readCondition_7 (s.2.2.2) (J) (.inr r)).1 (s.2.2.2) (zp_X3_readCondition_7 (s.2.2.2) (J) (.inr r)).2 (J) :=
  zw_itF (A := fun t t0 : Int32 × Int32 × Int32 × zI => zw_FR U (t.2.2.2) (t0.2.2.2) (J) (J)) (Q := fun (r : zI) (t : Int32 × Int32 × Int32 × zI) => zw_FR U (zp_X3_readCondition_7 (t.2.2.2) (J) (.inr r)).1 (t.2.2.2) (zp_X3_readCondition_7 (t.2.2.2) (J) (.inr r)).2 (J)) (fun s o h1 => by
    have h2 := fr_s_X3_readCondition_7 U hU v0 v1 J hv0 s o h1
    cases o with
    | inl t => exact h2
    | inr r => exact h2) (fun h1 h2 => zw_FR.tr h2 h1) n s r h
theorem fr_X3_readCondition (U : Nat → Prop) {R : zR} (hU : ∀ o j, U o → U (R o j)) (v0 : Nat) (v1 : Nat) (I : zI) (J : zJ) (hv0 : U v0) (o : zI) (hf : f_X3_readCondition v0 v1 I R J = some o) : zw_FR U (o) (I) (J) (J) := by
  have hF : zw_FR U I I J J := zw_FR.rf
  unfold f_X3_readCondition at hf
  obtain ⟨q25, hq25, hf⟩ := zw_bdE hf
  have hF := (fr_s_X3_readCondition_7_lp U hU v0 v1 J hv0 _ _ _ hq25).tr hF
  cases hf
  exact hF
theorem fr_j_X3_readGrade_21 (U : Nat → Prop) {R : zR} (hU : ∀ o j, U o → U (R o j)) (v0 : Nat) (v1 : Nat) (s0 : Nat) (s1 : Nat) (s2 : Int32) (s3 : Int32) (I : zI) (J : zJ) (hv0 : U v0) (hs0 : U s0) (o : zI × zJ) (hf : j_X3_readGrade_21 v0 v1 s0 s1 s2 s3 I R J = some o) : zw_FR U (o.1) (I) (o.2) (J) := by
  have hF : zw_FR U I I J J := zw_FR.rf
  unfold j_X3_readGrade_21 at hf
  obtain ⟨g4, hf⟩ := zw_gcE hf (by decide)
  obtain ⟨q5, hq5, hf⟩ := zw_bdE hf
  have hF := (fr_X3_take U hU s0 s1 s2 s3 I J hs0 _ hq5).tr hF
  rcases zw_ifE hf with ⟨c6, hf⟩ | ⟨c6, hf⟩
  ·
    obtain ⟨g7, hf⟩ := zw_gcE hf (by decide)
    obtain ⟨q8, hq8, hf⟩ := zw_bdE hf
    have hF := (fr_X3_takeName U hU v0 v1 q5.2 J hv0 _ hq8).tr hF
    obtain ⟨q9, hq9, hf⟩ := zw_bdE hf
    have hF := (fr_X3_take U hU v0 v1 24 1 q8.1 q8.2 hv0 _ hq9).tr hF
    obtain ⟨g10, hf⟩ := zw_gcE hf (by decide)
    obtain ⟨q11, hq11, hf⟩ := zw_bdE hf
    obtain ⟨hF2, uq11⟩ := fr_X1_addGrade U hU (R v0 2) q9.2 q8.2 (hU _ _ hv0) _ hq11
    have hF := hF2.tr hF
    obtain ⟨g12, hf⟩ := zw_gcE hf (by decide)
    obtain ⟨q13, hq13, hf⟩ := zw_bdE hf
    have hF := (fr_X5_begin U hU q11.1 (q11.2 (R v0 2) 14) q11.2 q8.2 uq11 _ hq13).tr hF
    obtain ⟨q14, hq14, hf⟩ := zw_bdE hf
    have hF := (fr_X3_readCondition U hU v0 v1 q13 q8.2 hv0 _ hq14).tr hF
    obtain ⟨I15, eI15, hf⟩ := zw_letE hf
    have hF := hF.wI eI15 uq11
    obtain ⟨q16, hq16, hf⟩ := zw_bdE hf
    have hF := (fr_X3_take U hU v0 v1 5 1 I15 q8.2 hv0 _ hq16).tr hF
    cases hf
    exact hF
  ·
    cases hf
    exact hF
theorem fr_X3_readGrade (U : Nat → Prop) {R : zR} (hU : ∀ o j, U o → U (R o j)) (v0 : Nat) (v1 : Nat) (I : zI) (J : zJ) (hv0 : U v0) (o : zI × zJ) (hf : f_X3_readGrade v0 v1 I R J = some o) : zw_FR U (o.1) (I) (o.2) (J) := by
  have hF : zw_FR U I I J J := zw_FR.rf
  unfold f_X3_readGrade at hf
  obtain ⟨g1, hf⟩ := zw_gcE hf (by decide)
  obtain ⟨g2, hf⟩ := zw_gcE hf (by decide)
  rcases zw_ifE hf with ⟨c3, hf⟩ | ⟨c3, hf⟩
  ·
    exact (fr_j_X3_readGrade_21 U hU v0 v1 v0 v1 21 0 I J hv0 hv0 _ hf).tr hF
  ·
    exact (fr_j_X3_readGrade_21 U hU v0 v1 v0 v1 21 1 I J hv0 hv0 _ hf).tr hF
theorem fr_j_X3_readPrice_95 (U : Nat → Prop) {R : zR} (hU : ∀ o j, U o → U (R o j)) (v0 : Nat) (v1 : Nat) (v2 : Nat) (I : zI) (J : zJ) (hv0 : U v0) (hv2 : U v2) (o : zI × zJ) (hf : j_X3_readPrice_95 v0 v1 v2 I R J = some o) : zw_FR U (o.1) (I) (o.2) (J) := by
  have hF : zw_FR U I I J J := zw_FR.rf
  unfold j_X3_readPrice_95 at hf
  obtain ⟨g17, hf⟩ := zw_gcE hf (by decide)
  obtain ⟨g18, hf⟩ := zw_gcE hf (by decide)
  obtain ⟨g19, hf⟩ := zw_gcE hf (by decide)
  obtain ⟨I20, eI20, hf⟩ := zw_letE hf
  have hF := hF.wI eI20 hv2
  obtain ⟨q21, hq21, hf⟩ := zw_bdE hf
  have hF := (fr_X3_take U hU v0 v1 5 1 I20 J hv0 _ hq21).tr hF
  cases hf
  exact hF
theorem fr_j_X3_readPrice_21 (U : Nat → Prop) {R : zR} (hU : ∀ o j, U o → U (R o j)) (v0 : Nat) (v1 : Nat) (s0 : Nat) (s1 : Nat) (s2 : Int32) (s3 : Int32) (I : zI) (J : zJ) (hv0 : U v0) (hs0 : U s0) (o : zI × zJ) (hf : j_X3_readPrice_21 v0 v1 s0 s1 s2 s3 I R J = some o) : zw_FR U (o.1) (I) (o.2) (J) := by
  have hF : zw_FR U I I J J := zw_FR.rf
  unfold j_X3_readPrice_21 at hf
  obtain ⟨g4, hf⟩ := zw_gcE hf (by decide)
  obtain ⟨q5, hq5, hf⟩ := zw_bdE hf
  have hF := (fr_X3_take U hU s0 s1 s2 s3 I J hs0 _ hq5).tr hF
  rcases zw_ifE hf with ⟨c6, hf⟩ | ⟨c6, hf⟩
  ·
    obtain ⟨g7, hf⟩ := zw_gcE hf (by decide)
    obtain ⟨q8, hq8, hf⟩ := zw_bdE hf
    have hF := (fr_X3_takeName U hU v0 v1 q5.2 J hv0 _ hq8).tr hF
    obtain ⟨g9, hf⟩ := zw_gcE hf (by decide)
    obtain ⟨q10, hq10, hf⟩ := zw_bdE hf
    obtain ⟨hF2, uq10⟩ := fr_X1_addPrice U hU (R v0 2) q8.1 q8.2 (hU _ _ hv0) _ hq10
    have hF := hF2.tr hF
    obtain ⟨g11, hf⟩ := zw_gcE hf (by decide)
    obtain ⟨q12, hq12, hf⟩ := zw_bdE hf
    have hF := (fr_X5_begin U hU q10.1 (q10.2 (R v0 2) 14) q10.2 q8.2 uq10 _ hq12).tr hF
    obtain ⟨q13, hq13, hf⟩ := zw_bdE hf
    have hF := (fr_r_readSum U hU 8 v0 v1 0 q12 q8.2 hv0 _ hq13).tr hF
    obtain ⟨I14, eI14, hf⟩ := zw_letE hf
    have hF := hF.wI eI14 uq10
    obtain ⟨q15, hq15, hf⟩ := zw_bdE hf
    rcases zw_ifE hf with ⟨c16, hf⟩ | ⟨c16, hf⟩
    ·
      exact (fr_j_X3_readPrice_95 U hU v0 v1 q10.1 I14 q8.2 hv0 uq10 _ hf).tr hF
    ·
      obtain ⟨q22, hq22, hf⟩ := zw_bdE hf
      have hF := (fr_X3_take U hU v0 v1 24 1 I14 q8.2 hv0 _ hq22).tr hF
      rcases zw_ifE hf with ⟨c23, hf⟩ | ⟨c23, hf⟩
      ·
        exact (fr_j_X3_readPrice_95 U hU v0 v1 q10.1 q22.2 q8.2 hv0 uq10 _ hf).tr hF
      ·
        obtain ⟨q24, hq24, hf⟩ := zw_bdE hf
        have hF := (fr_X3_readCondition U hU v0 v1 q22.2 q8.2 hv0 _ hq24).tr hF
        exact (fr_j_X3_readPrice_95 U hU v0 v1 q10.1 q24 q8.2 hv0 uq10 _ hf).tr hF
  ·
    cases hf
    exact hF
theorem fr_X3_readPrice (U : Nat → Prop) {R : zR} (hU : ∀ o j, U o → U (R o j)) (v0 : Nat) (v1 : Nat) (I : zI) (J : zJ) (hv0 : U v0) (o : zI × zJ) (hf : f_X3_readPrice v0 v1 I R J = some o) : zw_FR U (o.1) (I) (o.2) (J) := by
  have hF : zw_FR U I I J J := zw_FR.rf
  unfold f_X3_readPrice at hf
  obtain ⟨g1, hf⟩ := zw_gcE hf (by decide)
  obtain ⟨g2, hf⟩ := zw_gcE hf (by decide)
  rcases zw_ifE hf with ⟨c3, hf⟩ | ⟨c3, hf⟩
  ·
    exact (fr_j_X3_readPrice_21 U hU v0 v1 v0 v1 22 0 I J hv0 hv0 _ hf).tr hF
  ·
    exact (fr_j_X3_readPrice_21 U hU v0 v1 v0 v1 22 1 I J hv0 hv0 _ hf).tr hF
def zp_X3_readText_34 (I : zI) (J : zJ) (o : (Int32 × zI × zJ) ⊕ (zI × zJ)) : zI × zJ := match o with | .inl t => (t.2.1, t.2.2) | .inr r => (r.1, r.2)
theorem fr_j_X3_readText_137_34 (U : Nat → Prop) {R : zR} (hU : ∀ o j, U o → U (R o j)) (v0 : Nat) (v1 : Nat) (v2 : Int32) (I : zI) (J : zJ)  (o : (Int32 × zI × zJ) ⊕ (zI × zJ)) (hf : j_X3_readText_137_34 v0 v1 v2 I R J = some o) : zw_FR U (zp_X3_readText_34 I J o).1 (I) (zp_X3_readText_34 I J o).2 (J) := by
  have hF : zw_FR U I I J J := zw_FR.rf
  unfold j_X3_readText_137_34 at hf
  obtain ⟨x20, ex20, hf⟩ := zw_letE hf
  cases hf
  exact hF
theorem fr_s_X3_readText_34 (U : Nat → Prop) {R : zR} (hU : ∀ o j, U o → U (R o j)) (v0 : Nat) (v1 : Nat)  (hv0 : U v0) (s : Int32 × zI × zJ) (o : (Int32 × zI × zJ) ⊕ (zI × zJ)) (hf : s_X3_readText_34 v0 v1 R s = some o) : zw_FR U (zp_X3_readText_34 s.2.1 s.2.2 o).1 (s.2.1) (zp_X3_readText_34 s.2.1 s.2.2 o).2 (s.2.2) := by
  have hF : zw_FR U (s.2.1) (s.2.1) (s.2.2) (s.2.2) := zw_FR.rf
  unfold s_X3_readText_34 at hf
  rcases zw_ifE hf with ⟨c9, hf⟩ | ⟨c9, hf⟩
  ·
    cases hf
    exact hF
  ·
    obtain ⟨g10, hf⟩ := zw_gcE hf (by decide)
    rcases zw_ifE hf with ⟨c11, hf⟩ | ⟨c11, hf⟩
    ·
      cases hf
      exact hF
    ·
      obtain ⟨g12, hf⟩ := zw_gcE hf (by decide)
      obtain ⟨g13, hf⟩ := zw_gcE hf (by decide)
      obtain ⟨i14, hf⟩ := zw_inE hf
      rcases zw_ifE hf with ⟨c15, hf⟩ | ⟨c15, hf⟩
      ·
        cases hf
        exact hF
      ·
        obtain ⟨i16, hf⟩ := zw_inE hf
        obtain ⟨x17, ex17, hf⟩ := zw_letE hf
        rcases zw_ifE hf with ⟨c18, hf⟩ | ⟨c18, hf⟩
        ·
          obtain ⟨q19, hq19, hf⟩ := zw_bdE hf
          have hF := (fr_X3_readCut U hU v0 v1 s.2.1 s.2.2 hv0 _ hq19).tr hF
          exact (fr_j_X3_readText_137_34 U hU v0 v1 s.1 q19.1 q19.2  _ hf).tr hF
        ·
          rcases zw_ifE hf with ⟨c21, hf⟩ | ⟨c21, hf⟩
          ·
            obtain ⟨q22, hq22, hf⟩ := zw_bdE hf
            have hF := (fr_X3_readRough U hU v0 v1 s.2.1 s.2.2 hv0 _ hq22).tr hF
            exact (fr_j_X3_readText_137_34 U hU v0 v1 s.1 q22.1 q22.2  _ hf).tr hF
          ·
            rcases zw_ifE hf with ⟨c23, hf⟩ | ⟨c23, hf⟩
            ·
              obtain ⟨q24, hq24, hf⟩ := zw_bdE hf
              have hF := (fr_X3_readGrade U hU v0 v1 s.2.1 s.2.2 hv0 _ hq24).tr hF
              exact (fr_j_X3_readText_137_34 U hU v0 v1 s.1 q24.1 q24.2  _ hf).tr hF
            ·
              rcases zw_ifE hf with ⟨c25, hf⟩ | ⟨c25, hf⟩
              ·
                obtain ⟨q26, hq26, hf⟩ := zw_bdE hf
                have hF := (fr_X3_readPrice U hU v0 v1 s.2.1 s.2.2 hv0 _ hq26).tr hF
                exact (fr_j_X3_readText_137_34 U hU v0 v1 s.1 q26.1 q26.2  _ hf).tr hF
              ·
                obtain ⟨q27, hq27, hf⟩ := zw_bdE hf
                have hF := (fr_X3_readStuff U hU v0 v1 s.2.1 s.2.2 hv0 _ hq27).tr hF
                exact (fr_j_X3_readText_137_34 U hU v0 v1 s.1 q27.1 q27.2  _ hf).tr hF
theorem fr_s_X3_readText_34_lp (U : Nat → Prop) {R : zR} (hU : ∀ o j, U o → U (R o j)) (v0 : Nat) (v1 : Nat)  (hv0 : U v0) (n : Nat) (s : Int32 × zI × zJ) (r : zI × zJ) (h : zw_it (s_X3_readText_34 v0 v1 R) n s = some r) : zw_FR U (zp_X3_readText_34 (s.2.1) (s.2.2) (.inr r)).1 (s.2.1) (zp_X3_readText_34 (s.2.1) (s.2.2) (.inr r)).2 (s.2.2) :=
  zw_itF (A := fun t t0 : Int32 × zI × zJ => zw_FR U (t.2.1) (t0.2.1) (t.2.2) (t0.2.2)) (Q := fun (r : zI × zJ) (t : Int32 × zI × zJ) => zw_FR U (zp_X3_readText_34 (t.2.1) (t.2.2) (.inr r)).1 (t.2.1) (zp_X3_readText_34 (t.2.1) (t.2.2) (.inr r)).2 (t.2.2)) (fun s o h1 => by
    have h2 := fr_s_X3_readText_34 U hU v0 v1 hv0 s o h1
    cases o with
    | inl t => exact h2
    | inr r => exact h2) (fun h1 h2 => zw_FR.tr h2 h1) n s r h
theorem fr_j_X3_readText_143 (U : Nat → Prop) {R : zR} (hU : ∀ o j, U o → U (R o j)) (v0 : Nat) (I : zI) (J : zJ) (hv0 : U v0) (o : zI × zJ) (hf : j_X3_readText_143 v0 I R J = some o) : zw_FR U (o.1) (I) (o.2) (J) := by
  have hF : zw_FR U I I J J := zw_FR.rf
  unfold j_X3_readText_143 at hf
  obtain ⟨g29, hf⟩ := zw_gcE hf (by decide)
  rcases zw_ifE hf with ⟨c30, hf⟩ | ⟨c30, hf⟩
  ·
    cases hf
    exact hF
  ·
    obtain ⟨I31, eI31, hf⟩ := zw_letE hf
    have hF := hF.wI eI31 hv0
    obtain ⟨I32, eI32, hf⟩ := zw_letE hf
    have hF := hF.wI eI32 hv0
    cases hf
    exact hF
theorem fr_X3_readText (U : Nat → Prop) {R : zR} (hU : ∀ o j, U o → U (R o j)) (v0 : Nat) (v1 : Nat) (I : zI) (J : zJ) (hv0 : U v0) (o : zI × zJ) (hf : f_X3_readText v0 v1 I R J = some o) : zw_FR U (o.1) (I) (o.2) (J) := by
  have hF : zw_FR U I I J J := zw_FR.rf
  unfold f_X3_readText at hf
  obtain ⟨g1, hf⟩ := zw_gcE hf (by decide)
  obtain ⟨I2, eI2, hf⟩ := zw_letE hf
  have hF := hF.wI eI2 hv0
  obtain ⟨I3, eI3, hf⟩ := zw_letE hf
  have hF := hF.wI eI3 hv0
  obtain ⟨I4, eI4, hf⟩ := zw_letE hf
  have hF := hF.wI eI4 hv0
  obtain ⟨I5, eI5, hf⟩ := zw_letE hf
  have hF := hF.wI eI5 hv0
  obtain ⟨I6, eI6, hf⟩ := zw_letE hf
  have hF := hF.wI eI6 hv0
  obtain ⟨g7, hf⟩ := zw_gcE hf (by decide)
  obtain ⟨q8, hq8, hf⟩ := zw_bdE hf
  have hF := (fr_X1_empty U hU (R v0 2) I6 J (hU _ _ hv0) _ hq8).tr hF
  obtain ⟨q28, hq28, hf⟩ := zw_bdE hf
  have hF := (fr_s_X3_readText_34_lp U hU v0 v1 hv0 _ _ _ hq28).tr hF
  exact (fr_j_X3_readText_143 U hU v0 q28.1 q28.2 hv0 _ hf).tr hF
