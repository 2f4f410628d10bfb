def zp_X11_holds_26 (I : zI) (J : zJ) (o : (Int32 × Int32 × zI) ⊕ ((Int32 × zI) ⊕ (zI))) : zI × zJ := match o with | .inl t => (t.2.2, J) | .inr r => (match r with | .inl r0 => (r0.2, J) | .inr t0 => (t0, J))
theorem fr_j_X11_holds_79_26 (U : Nat → Prop) {R : zR} (hU : ∀ o j, U o → U (R o j)) (v0 : Nat) (v1 : Int32) (v3 : Int32) (s0 : Int32) (I : zI) (J : zJ)  (o : (Int32 × Int32 × zI) ⊕ ((Int32 × zI) ⊕ (zI))) (hf : j_X11_holds_79_26 v0 v1 v3 s0 I R = some o) : zw_FR U (zp_X11_holds_26 I J o).1 (I) (zp_X11_holds_26 I J o).2 (J) := by
  have hF : zw_FR U I I J J := zw_FR.rf
  unfold j_X11_holds_79_26 at hf
  obtain ⟨x21, ex21, hf⟩ := zw_letE hf
  cases hf
  exact hF
theorem fr_j_X11_holds_78_26 (U : Nat → Prop) {R : zR} (hU : ∀ o j, U o → U (R o j)) (v0 : Nat) (v1 : Int32) (v3 : Int32) (I : zI) (J : zJ)  (o : (Int32 × Int32 × zI) ⊕ ((Int32 × zI) ⊕ (zI))) (hf : j_X11_holds_78_26 v0 v1 v3 I R = some o) : zw_FR U (zp_X11_holds_26 I J o).1 (I) (zp_X11_holds_26 I J o).2 (J) := by
  have hF : zw_FR U I I J J := zw_FR.rf
  unfold j_X11_holds_78_26 at hf
  exact (fr_j_X11_holds_79_26 U hU v0 v1 v3 0 I J  _ hf).tr hF
theorem fr_j_X11_holds_62_26 (U : Nat → Prop) {R : zR} (hU : ∀ o j, U o → U (R o j)) (v0 : Nat) (v1 : Int32) (v2 : Int32) (v3 : Int32) (I : zI) (J : zJ) (hv0 : U v0) (o : (Int32 × Int32 × zI) ⊕ ((Int32 × zI) ⊕ (zI))) (hf : j_X11_holds_62_26 v0 v1 v2 v3 I R = some o) : zw_FR U (zp_X11_holds_26 I J o).1 (I) (zp_X11_holds_26 I J o).2 (J) := by
  have hF : zw_FR U I I J J := zw_FR.rf
  unfold j_X11_holds_62_26 at hf
  rcases zw_ifE hf with ⟨c20, hf⟩ | ⟨c20, hf⟩
  ·
    exact (fr_j_X11_holds_78_26 U hU v0 v1 v3 I J  _ hf).tr hF
  ·
    obtain ⟨g22, hf⟩ := zw_gcE hf (by decide)
    obtain ⟨q23, hq23, hf⟩ := zw_bdE hf
    have hF := (fr_X11_isTrue U hU v0 v3 I J hv0 _ hq23).tr hF
    rcases zw_ifE hf with ⟨c24, hf⟩ | ⟨c24, hf⟩
    ·
      exact (fr_j_X11_holds_78_26 U hU v0 v1 v3 q23.2 J  _ hf).tr hF
    ·
      exact (fr_j_X11_holds_79_26 U hU v0 v1 v3 1 q23.2 J  _ hf).tr hF
theorem fr_j_X11_holds_51_26 (U : Nat → Prop) {R : zR} (hU : ∀ o j, U o → U (R o j)) (v0 : Nat) (v1 : Int32) (v2 : Int32) (v3 : Int32) (I : zI) (J : zJ) (hv0 : U v0) (o : (Int32 × Int32 × zI) ⊕ ((Int32 × zI) ⊕ (zI))) (hf : j_X11_holds_51_26 v0 v1 v2 v3 I R = some o) : zw_FR U (zp_X11_holds_26 I J o).1 (I) (zp_X11_holds_26 I J o).2 (J) := by
  have hF : zw_FR U I I J J := zw_FR.rf
  unfold j_X11_holds_51_26 at hf
  obtain ⟨g16, hf⟩ := zw_gcE hf (by decide)
  obtain ⟨g17, hf⟩ := zw_gcE hf (by decide)
  obtain ⟨i18, hf⟩ := zw_inE hf
  rcases zw_ifE hf with ⟨c19, hf⟩ | ⟨c19, hf⟩
  ·
    exact (fr_j_X11_holds_62_26 U hU v0 v1 v2 v3 I J hv0 _ hf).tr hF
  ·
    exact (fr_j_X11_holds_62_26 U hU v0 v1 1 v3 I J hv0 _ hf).tr hF
theorem fr_s_X11_holds_26 (U : Nat → Prop) {R : zR} (hU : ∀ o j, U o → U (R o j)) (v0 : Nat) (v1 : Int32) (J : zJ) (hv0 : U v0) (s : Int32 × Int32 × zI) (o : (Int32 × Int32 × zI) ⊕ ((Int32 × zI) ⊕ (zI))) (hf : s_X11_holds_26 v0 v1 R s = some o) : zw_FR U (zp_X11_holds_26 s.2.2 J o).1 (s.2.2) (zp_X11_holds_26 s.2.2 J o).2 (J) := by
  have hF : zw_FR U (s.2.2) (s.2.2) (J) (J) := zw_FR.rf
  unfold s_X11_holds_26 at hf
  obtain ⟨g9, hf⟩ := zw_gcE hf (by decide)
  obtain ⟨g10, hf⟩ := zw_gcE hf (by decide)
  obtain ⟨i11, hf⟩ := zw_inE hf
  rcases zw_ifE hf with ⟨c12, hf⟩ | ⟨c12, hf⟩
  ·
    cases hf
    exact hF
  ·
    obtain ⟨g13, hf⟩ := zw_gcE hf (by decide)
    obtain ⟨i14, hf⟩ := zw_inE hf
    rcases zw_ifE hf with ⟨c15, hf⟩ | ⟨c15, hf⟩
    ·
      exact (fr_j_X11_holds_51_26 U hU v0 v1 s.1 s.2.1 s.2.2 J hv0 _ hf).tr hF
    ·
      rcases zw_ifE hf with ⟨c25, hf⟩ | ⟨c25, hf⟩
      ·
        exact (fr_j_X11_holds_51_26 U hU v0 v1 s.1 s.2.1 s.2.2 J hv0 _ hf).tr hF
      ·
        cases hf
        exact hF
theorem fr_s_X11_holds_26_lp (U : Nat → Prop) {R : zR} (hU : ∀ o j, U o → U (R o j)) (v0 : Nat) (v1 : Int32) (J : zJ) (hv0 : U v0) (n : Nat) (s : Int32 × Int32 × zI) (r : (Int32 × zI) ⊕ (zI)) (h : zw_it (s_X11_holds_26 v0 v1 R) n s = some r) : zw_FR U (zp_X11_holds_26 (s.2.2) (J) (.inr r)).1 (s.2.2) (zp_X11_holds_26 (s.2.2) (J) (.inr r)).2 (J) :=
  zw_itF (A := fun t t0 : Int32 × Int32 × zI => zw_FR U (t.2.2) (t0.2.2) (J) (J)) (Q := fun (r : (Int32 × zI) ⊕ (zI)) (t : Int32 × Int32 × zI) => zw_FR U (zp_X11_holds_26 (t.2.2) (J) (.inr r)).1 (t.2.2) (zp_X11_holds_26 (t.2.2) (J) (.inr r)).2 (J)) (fun s o h1 => by
    have h2 := fr_s_X11_holds_26 U hU v0 v1 J hv0 s o h1
    cases o with
    | inl t => exact h2
    | inr r => exact h2) (fun h1 h2 => zw_FR.tr h2 h1) n s r h
theorem fr_X11_holds (U : Nat → Prop) {R : zR} (hU : ∀ o j, U o → U (R o j)) (v0 : Nat) (v1 : Int32) (I : zI) (J : zJ) (hv0 : U v0) (o : Int32 × zI) (hf : f_X11_holds v0 v1 I R = some o) : zw_FR U (o.2) (I) (J) (J) := by
  have hF : zw_FR U I I J J := zw_FR.rf
  unfold f_X11_holds at hf
  obtain ⟨g1, hf⟩ := zw_gcE hf (by decide)
  obtain ⟨g2, hf⟩ := zw_gcE hf (by decide)
  obtain ⟨i3, hf⟩ := zw_inE hf
  obtain ⟨g4, hf⟩ := zw_gcE hf (by decide)
  obtain ⟨i5, hf⟩ := zw_inE hf
  rcases zw_ifE hf with ⟨c6, hf⟩ | ⟨c6, hf⟩
  ·
    obtain ⟨i7, hf⟩ := zw_inE hf
    obtain ⟨x8, ex8, hf⟩ := zw_letE hf
    obtain ⟨q26, hq26, hf⟩ := zw_bdE hf
    have hF := (fr_s_X11_holds_26_lp U hU v0 v1 J hv0 _ _ _ hq26).tr hF
    rcases q26 with a27 | a28
    ·
      obtain ⟨b29, hf⟩ := zw_bE hf
      cases hf
      exact hF
    ·
      cases hf
      exact hF
  ·
    cases hf
    exact hF
theorem fr_X11_must (U : Nat → Prop) {R : zR} (hU : ∀ o j, U o → U (R o j)) (v0 : Nat) (v1 : Int32) (I : zI) (J : zJ) (hv0 : U v0) (o : zI) (hf : f_X11_must v0 v1 I R = some o) : zw_FR U (o) (I) (J) (J) := by
  have hF : zw_FR U I I J J := zw_FR.rf
  unfold f_X11_must at hf
  obtain ⟨g1, hf⟩ := zw_gcE hf (by decide)
  obtain ⟨q2, hq2, hf⟩ := zw_bdE hf
  rcases zw_ifE hf with ⟨c3, hf⟩ | ⟨c3, hf⟩
  ·
    obtain ⟨q4, hq4, hf⟩ := zw_bdE hf
    have hF := (fr_X11_fail U hU v0 1 I J hv0 _ hq4).tr hF
    cases hf
    exact hF
  ·
    obtain ⟨q5, hq5, hf⟩ := zw_bdE hf
    have hF := (fr_X11_goesOn U hU v0 I J hv0 _ hq5).tr hF
    cases hf
    exact hF
theorem fr_X11_test (U : Nat → Prop) {R : zR} (hU : ∀ o j, U o → U (R o j)) (v0 : Nat) (v1 : Int32) (v2 : Int32) (v3 : Int32) (I : zI) (J : zJ) (hv0 : U v0) (o : Int32 × zI) (hf : f_X11_test v0 v1 v2 v3 I R = some o) : zw_FR U (o.2) (I) (J) (J) := by
  have hF : zw_FR U I I J J := zw_FR.rf
  unfold f_X11_test at hf
  obtain ⟨g1, hf⟩ := zw_gcE hf (by decide)
  rcases zw_ifE hf with ⟨c2, hf⟩ | ⟨c2, hf⟩
  ·
    cases hf
    exact hF
  ·
    obtain ⟨q3, hq3, hf⟩ := zw_bdE hf
    rcases zw_ifE hf with ⟨c4, hf⟩ | ⟨c4, hf⟩
    ·
      cases hf
      exact hF
    ·
      obtain ⟨q5, hq5, hf⟩ := zw_bdE hf
      rcases zw_ifE hf with ⟨c6, hf⟩ | ⟨c6, hf⟩
      ·
        cases hf
        exact hF
      ·
        obtain ⟨q7, hq7, hf⟩ := zw_bdE hf
        rcases zw_ifE hf with ⟨c8, hf⟩ | ⟨c8, hf⟩
        ·
          obtain ⟨g9, hf⟩ := zw_gcE hf (by decide)
          obtain ⟨i10, hf⟩ := zw_inE hf
          obtain ⟨I11, eI11, hf⟩ := zw_letE hf
          have hF := hF.wI eI11 (hU _ _ hv0)
          obtain ⟨g12, hf⟩ := zw_gcE hf (by decide)
          obtain ⟨i13, hf⟩ := zw_inE hf
          obtain ⟨I14, eI14, hf⟩ := zw_letE hf
          have hF := hF.wI eI14 (hU _ _ hv0)
          obtain ⟨g15, hf⟩ := zw_gcE hf (by decide)
          obtain ⟨i16, hf⟩ := zw_inE hf
          obtain ⟨I17, eI17, hf⟩ := zw_letE hf
          have hF := hF.wI eI17 (hU _ _ hv0)
          obtain ⟨g18, hf⟩ := zw_gcE hf (by decide)
          obtain ⟨i19, hf⟩ := zw_inE hf
          obtain ⟨I20, eI20, hf⟩ := zw_letE hf
          have hF := hF.wI eI20 (hU _ _ hv0)
          obtain ⟨I21, eI21, hf⟩ := zw_letE hf
          have hF := hF.wI eI21 hv0
          cases hf
          exact hF
        ·
          cases hf
          exact hF
theorem fr_j_X11_unit_88 (U : Nat → Prop) {R : zR} (hU : ∀ o j, U o → U (R o j)) (v0 : Nat) (I : zI) (J : zJ) (hv0 : U v0) (o : zI) (hf : j_X11_unit_88 v0 I R = some o) : zw_FR U (o) (I) (J) (J) := by
  have hF : zw_FR U I I J J := zw_FR.rf
  unfold j_X11_unit_88 at hf
  obtain ⟨g5, hf⟩ := zw_gcE hf (by decide)
  obtain ⟨q6, hq6, hf⟩ := zw_bdE hf
  have hF := (fr_X11_fail U hU v0 1 I J hv0 _ hq6).tr hF
  cases hf
  exact hF
theorem fr_X11_unit (U : Nat → Prop) {R : zR} (hU : ∀ o j, U o → U (R o j)) (v0 : Nat) (I : zI) (J : zJ) (hv0 : U v0) (o : zI) (hf : f_X11_unit v0 I R = some o) : zw_FR U (o) (I) (J) (J) := by
  have hF : zw_FR U I I J J := zw_FR.rf
  unfold f_X11_unit at hf
  obtain ⟨g1, hf⟩ := zw_gcE hf (by decide)
  obtain ⟨q2, hq2, hf⟩ := zw_bdE hf
  rcases zw_ifE hf with ⟨c3, hf⟩ | ⟨c3, hf⟩
  ·
    rcases zw_ifE hf with ⟨c4, hf⟩ | ⟨c4, hf⟩
    ·
      exact (fr_j_X11_unit_88 U hU v0 I J hv0 _ hf).tr hF
    ·
      obtain ⟨g7, hf⟩ := zw_gcE hf (by decide)
      obtain ⟨i8, hf⟩ := zw_inE hf
      rcases zw_ifE hf with ⟨c9, hf⟩ | ⟨c9, hf⟩
      ·
        exact (fr_j_X11_unit_88 U hU v0 I J hv0 _ hf).tr hF
      ·
        obtain ⟨i10, hf⟩ := zw_inE hf
        rcases zw_ifE hf with ⟨c11, hf⟩ | ⟨c11, hf⟩
        ·
          exact (fr_j_X11_unit_88 U hU v0 I J hv0 _ hf).tr hF
        ·
          obtain ⟨i12, hf⟩ := zw_inE hf
          obtain ⟨q13, hq13, hf⟩ := zw_bdE hf
          have hF := (fr_X11_emit U hU v0 1 ((I (R v0 5) (Int32.toNatClampNeg (I v0 11))) - 30) I J hv0 _ hq13).tr hF
          obtain ⟨q14, hq14, hf⟩ := zw_bdE hf
          have hF := (fr_X11_goesOn U hU v0 q13 J hv0 _ hq14).tr hF
          cases hf
          exact hF
  ·
    obtain ⟨g15, hf⟩ := zw_gcE hf (by decide)
    obtain ⟨i16, hf⟩ := zw_inE hf
    obtain ⟨q17, hq17, hf⟩ := zw_bdE hf
    have hF := (fr_X11_emit U hU v0 0 (I (R v0 7) (Int32.toNatClampNeg (I v0 11))) I J hv0 _ hq17).tr hF
    obtain ⟨q18, hq18, hf⟩ := zw_bdE hf
    have hF := (fr_X11_goesOn U hU v0 q17 J hv0 _ hq18).tr hF
    cases hf
    exact hF
def zp_X2_follow_17 (I : zI) (J : zJ) (o : (Int32 × zI) ⊕ (zI)) : zI × zJ := match o with | .inl t => (t.2, J) | .inr r => (r, J)
theorem fr_s_X2_follow_17 (U : Nat → Prop) {R : zR} (hU : ∀ o j, U o → U (R o j)) (v0 : Nat) (v1 : Nat) (J : zJ) (hv0 : U v0) (s : Int32 × zI) (o : (Int32 × zI) ⊕ (zI)) (hf : s_X2_follow_17 v0 v1 R s = some o) : zw_FR U (zp_X2_follow_17 s.2 J o).1 (s.2) (zp_X2_follow_17 s.2 J o).2 (J) := by
  have hF : zw_FR U (s.2) (s.2) (J) (J) := zw_FR.rf
  unfold s_X2_follow_17 at hf
  rcases zw_ifE hf with ⟨c4, hf⟩ | ⟨c4, hf⟩
  ·
    cases hf
    exact hF
  ·
    obtain ⟨g5, hf⟩ := zw_gcE hf (by decide)
    rcases zw_ifE hf with ⟨c6, hf⟩ | ⟨c6, hf⟩
    ·
      cases hf
      exact hF
    ·
      obtain ⟨q7, hq7, hf⟩ := zw_bdE hf
      have hF := (fr_X2_goThrough U hU v0 v1 s.2 J hv0 _ hq7).tr hF
      obtain ⟨x8, ex8, hf⟩ := zw_letE hf
      cases hf
      exact hF
theorem fr_s_X2_follow_17_lp (U : Nat → Prop) {R : zR} (hU : ∀ o j, U o → U (R o j)) (v0 : Nat) (v1 : Nat) (J : zJ) (hv0 : U v0) (n : Nat) (s : Int32 × zI) (r : zI) (h : zw_it (s_X2_follow_17 v0 v1 R) n s = some r) : zw_FR U (zp_X2_follow_17 (s.2) (J) (.inr r)).1 (s.2) (zp_X2_follow_17 (s.2) (J) (.inr r)).2 (J) :=
  zw_itF (A := fun t t0 : Int32 × zI => zw_FR U (t.2) (t0.2) (J) (J)) (Q := fun (r : zI) (t : Int32 × zI) => zw_FR U (zp_X2_follow_17 (t.2) (J) (.inr r)).1 (t.2) (zp_X2_follow_17 (t.2) (J) (.inr r)).2 (J)) (fun s o h1 => by
    have h2 := fr_s_X2_follow_17 U hU v0 v1 J hv0 s o h1
    cases o with
    | inl t => exact h2
    | inr r => exact h2) (fun h1 h2 => zw_FR.tr h2 h1) n s r h
theorem fr_j_X2_follow_43 (U : Nat → Prop) {R : zR} (hU : ∀ o j, U o → U (R o j)) (v0 : Nat) (I : zI) (J : zJ) (hv0 : U v0) (o : zI) (hf : j_X2_follow_43 v0 I R = some o) : zw_FR U (o) (I) (J) (J) := by
  have hF : zw_FR U I I J J := zw_FR.rf
  unfold j_X2_follow_43 at hf
  obtain ⟨g10, hf⟩ := zw_gcE hf (by decide)
  obtain ⟨g11, hf⟩ := zw_gcE hf (by decide)
  obtain ⟨i12, hf⟩ := zw_inE hf
  obtain ⟨i13, hf⟩ := zw_inE hf
  obtain ⟨I14, eI14, hf⟩ := zw_letE hf
  have hF := hF.wI eI14 (hU _ _ hv0)
  cases hf
  exact hF
theorem fr_X2_follow (U : Nat → Prop) {R : zR} (hU : ∀ o j, U o → U (R o j)) (v0 : Nat) (v1 : Nat) (v2 : Int32) (v3 : Int32) (v4 : Int32) (I : zI) (J : zJ) (hv0 : U v0) (o : zI) (hf : f_X2_follow v0 v1 v2 v3 v4 I R = some o) : zw_FR U (o) (I) (J) (J) := by
  have hF : zw_FR U I I J J := zw_FR.rf
  unfold f_X2_follow at hf
  obtain ⟨g1, hf⟩ := zw_gcE hf (by decide)
  obtain ⟨I2, eI2, hf⟩ := zw_letE hf
  have hF := hF.wI eI2 hv0
  obtain ⟨q3, hq3, hf⟩ := zw_bdE hf
  have hF := (fr_X2_enter U hU v0 v1 v2 v3 v4 I2 J hv0 _ hq3).tr hF
  obtain ⟨q9, hq9, hf⟩ := zw_bdE hf
  have hF := (fr_s_X2_follow_17_lp U hU v0 v1 J hv0 _ _ _ hq9).tr hF
  exact (fr_j_X2_follow_43 U hU v0 q9 J hv0 _ hf).tr hF
def zp_X3_readStuff_54 (I : zI) (J : zJ) (o : (Int32 × Int32 × zI) ⊕ (zI)) : zI × zJ := match o with | .inl t => (t.2.2, J) | .inr r => (r, J)
theorem fr_j_X3_readStuff_126_54 (U : Nat → Prop) {R : zR} (hU : ∀ o j, U o → U (R o j)) (v0 : Nat) (v1 : Nat) (v2 : Nat) (v4 : Int32) (s0 : Int32) (I : zI) (J : zJ)  (o : (Int32 × Int32 × zI) ⊕ (zI)) (hf : j_X3_readStuff_126_54 v0 v1 v2 v4 s0 I R J = some o) : zw_FR U (zp_X3_readStuff_54 I J o).1 (I) (zp_X3_readStuff_54 I J o).2 (J) := by
  have hF : zw_FR U I I J J := zw_FR.rf
  unfold j_X3_readStuff_126_54 at hf
  obtain ⟨x23, ex23, hf⟩ := zw_letE hf
  cases hf
  exact hF
theorem fr_j_X3_readStuff_125_54 (U : Nat → Prop) {R : zR} (hU : ∀ o j, U o → U (R o j)) (v0 : Nat) (v1 : Nat) (v2 : Nat) (v4 : Int32) (I : zI) (J : zJ)  (o : (Int32 × Int32 × zI) ⊕ (zI)) (hf : j_X3_readStuff_125_54 v0 v1 v2 v4 I R J = some o) : zw_FR U (zp_X3_readStuff_54 I J o).1 (I) (zp_X3_readStuff_54 I J o).2 (J) := by
  have hF : zw_FR U I I J J := zw_FR.rf
  unfold j_X3_readStuff_125_54 at hf
  exact (fr_j_X3_readStuff_126_54 U hU v0 v1 v2 v4 0 I J  _ hf).tr hF
theorem fr_j_X3_readStuff_77_54 (U : Nat → Prop) {R : zR} (hU : ∀ o j, U o → U (R o j)) (v0 : Nat) (v1 : Nat) (v2 : Nat) (v4 : Int32) (s0 : Nat) (s1 : Nat) (s2 : Int32) (I : zI) (J : zJ) (hv0 : U v0) (hv2 : U v2) (hs0 : U s0) (o : (Int32 × Int32 × zI) ⊕ (zI)) (hf : j_X3_readStuff_77_54 v0 v1 v2 v4 s0 s1 s2 I R J = some o) : zw_FR U (zp_X3_readStuff_54 I J o).1 (I) (zp_X3_readStuff_54 I J o).2 (J) := by
  have hF : zw_FR U I I J J := zw_FR.rf
  unfold j_X3_readStuff_77_54 at hf
  obtain ⟨g15, hf⟩ := zw_gcE hf (by decide)
  obtain ⟨q16, hq16, hf⟩ := zw_bdE hf
  have hF := (fr_X3_takeShare U hU s0 s1 s2 I J hs0 _ hq16).tr hF
  obtain ⟨g17, hf⟩ := zw_gcE hf (by decide)
  obtain ⟨q18, hq18, hf⟩ := zw_bdE hf
  have hF := (fr_X3_takeShare U hU v0 v1 1 q16.2 J hv0 _ hq18).tr hF
  obtain ⟨g19, hf⟩ := zw_gcE hf (by decide)
  obtain ⟨q20, hq20, hf⟩ := zw_bdE hf
  have hF := (fr_X7_setShare U hU v2 v4 q16.1 q18.1 q18.2 J hv2 _ hq20).tr hF
  obtain ⟨q21, hq21, hf⟩ := zw_bdE hf
  rcases zw_ifE hf with ⟨c22, hf⟩ | ⟨c22, hf⟩
  ·
    exact (fr_j_X3_readStuff_125_54 U hU v0 v1 v2 v4 q20 J  _ hf).tr hF
  ·
    obtain ⟨q24, hq24, hf⟩ := zw_bdE hf
    have hF := (fr_X3_take U hU v0 v1 7 1 q20 J hv0 _ hq24).tr hF
    rcases zw_ifE hf with ⟨c25, hf⟩ | ⟨c25, hf⟩
    ·
      exact (fr_j_X3_readStuff_125_54 U hU v0 v1 v2 v4 q24.2 J  _ hf).tr hF
    ·
      exact (fr_j_X3_readStuff_126_54 U hU v0 v1 v2 v4 1 q24.2 J  _ hf).tr hF
theorem fr_s_X3_readStuff_54 (U : Nat → Prop) {R : zR} (hU : ∀ o j, U o → U (R o j)) (v0 : Nat) (v1 : Nat) (v2 : Nat) (J : zJ) (hv0 : U v0) (hv2 : U v2) (s : Int32 × Int32 × zI) (o : (Int32 × Int32 × zI) ⊕ (zI)) (hf : s_X3_readStuff_54 v0 v1 v2 R J s = some o) : zw_FR U (zp_X3_readStuff_54 s.2.2 J o).1 (s.2.2) (zp_X3_readStuff_54 s.2.2 J o).2 (J) := by
  have hF : zw_FR U (s.2.2) (s.2.2) (J) (J) := zw_FR.rf
  unfold s_X3_readStuff_54 at hf
  rcases zw_ifE hf with ⟨c12, hf⟩ | ⟨c12, hf⟩
  ·
    cases hf
    exact hF
  ·
    rcases zw_ifE hf with ⟨c13, hf⟩ | ⟨c13, hf⟩
    ·
      cases hf
      exact hF
    ·
      rcases zw_ifE hf with ⟨c14, hf⟩ | ⟨c14, hf⟩
      ·
        exact (fr_j_X3_readStuff_77_54 U hU v0 v1 v2 s.2.1 v0 v1 0 s.2.2 J hv0 hv2 hv0 _ hf).tr hF
      ·
        exact (fr_j_X3_readStuff_77_54 U hU v0 v1 v2 s.2.1 v0 v1 1 s.2.2 J hv0 hv2 hv0 _ hf).tr hF
theorem fr_s_X3_readStuff_54_lp (U : Nat → Prop) {R : zR} (hU : ∀ o j, U o → U (R o j)) (v0 : Nat) (v1 : Nat) (v2 : Nat) (J : zJ) (hv0 : U v0) (hv2 : U v2) (n : Nat) (s : Int32 × Int32 × zI) (r : zI) (h : zw_it (s_X3_readStuff_54 v0 v1 v2 R J) n s = some r) : zw_FR U (zp_X3_readStuff_54 (s.2.2) (J) (.inr r)).1 (s.2.2) (zp_X3_readStuff_54 (s.2.2) (J) (.inr r)).2 (J) :=
  zw_itF (A := fun t t0 : Int32 × Int32 × zI => zw_FR U (t.2.2) (t0.2.2) (J) (J)) (Q := fun (r : zI) (t : Int32 × Int32 × zI) => zw_FR U (zp_X3_readStuff_54 (t.2.2) (J) (.inr r)).1 (t.2.2) (zp_X3_readStuff_54 (t.2.2) (J) (.inr r)).2 (J)) (fun s o h1 => by
    have h2 := fr_s_X3_readStuff_54 U hU v0 v1 v2 J hv0 hv2 s o h1
    cases o with
    | inl t => exact h2
    | inr r => exact h2) (fun h1 h2 => zw_FR.tr h2 h1) n s r h
theorem fr_j_X3_readStuff_164 (U : Nat → Prop) {R : zR} (hU : ∀ o j, U o → U (R o j)) (v0 : Nat) (v1 : Nat) (I : zI) (J : zJ) (hv0 : U v0) (o : zI × zJ) (hf : j_X3_readStuff_164 v0 v1 I R J = some o) : zw_FR U (o.1) (I) (o.2) (J) := by
  have hF : zw_FR U I I J J := zw_FR.rf
  unfold j_X3_readStuff_164 at hf
  obtain ⟨g30, hf⟩ := zw_gcE hf (by decide)
  obtain ⟨q31, hq31, hf⟩ := zw_bdE hf
  have hF := (fr_X3_take U hU v0 v1 5 1 I J hv0 _ hq31).tr hF
  cases hf
  exact hF
theorem fr_j_X3_readStuff_133 (U : Nat → Prop) {R : zR} (hU : ∀ o j, U o → U (R o j)) (v0 : Nat) (v1 : Nat) (v2 : Nat) (I : zI) (J : zJ) (hv0 : U v0) (hv2 : U v2) (o : zI × zJ) (hf : j_X3_readStuff_133 v0 v1 v2 I R J = some o) : zw_FR U (o.1) (I) (o.2) (J) := by
  have hF : zw_FR U I I J J := zw_FR.rf
  unfold j_X3_readStuff_133 at hf
  obtain ⟨g27, hf⟩ := zw_gcE hf (by decide)
  obtain ⟨q28, hq28, hf⟩ := zw_bdE hf
  rcases zw_ifE hf with ⟨c29, hf⟩ | ⟨c29, hf⟩
  ·
    exact (fr_j_X3_readStuff_164 U hU v0 v1 I J hv0 _ hf).tr hF
  ·
    obtain ⟨q32, hq32, hf⟩ := zw_bdE hf
    have hF := (fr_X3_take U hU v0 v1 23 1 I J hv0 _ hq32).tr hF
    rcases zw_ifE hf with ⟨c33, hf⟩ | ⟨c33, hf⟩
    ·
      exact (fr_j_X3_readStuff_164 U hU v0 v1 q32.2 J hv0 _ hf).tr hF
    ·
      obtain ⟨q34, hq34, hf⟩ := zw_bdE hf
      have hF := (fr_X3_takeShare U hU v0 v1 1 q32.2 J hv0 _ hq34).tr hF
      obtain ⟨g35, hf⟩ := zw_gcE hf (by decide)
      obtain ⟨I36, eI36, hf⟩ := zw_letE hf
      have hF := hF.wI eI36 hv2
      exact (fr_j_X3_readStuff_164 U hU v0 v1 I36 J hv0 _ hf).tr hF
theorem fr_j_X3_readStuff_20 (U : Nat → Prop) {R : zR} (hU : ∀ o j, U o → U (R o j)) (v0 : Nat) (v1 : Nat) (s0 : Nat) (s1 : Nat) (s2 : Int32) (s3 : Int32) (I : zI) (J : zJ) (hv0 : U v0) (hs0 : U s0) (o : zI × zJ) (hf : j_X3_readStuff_20 v0 v1 s0 s1 s2 s3 I R J = some o) : zw_FR U (o.1) (I) (o.2) (J) := by
  have hF : zw_FR U I I J J := zw_FR.rf
  unfold j_X3_readStuff_20 at hf
  obtain ⟨g4, hf⟩ := zw_gcE hf (by decide)
  obtain ⟨q5, hq5, hf⟩ := zw_bdE hf
  have hF := (fr_X3_take U hU s0 s1 s2 s3 I J hs0 _ hq5).tr hF
  rcases zw_ifE hf with ⟨c6, hf⟩ | ⟨c6, hf⟩
  ·
    obtain ⟨g7, hf⟩ := zw_gcE hf (by decide)
    obtain ⟨q8, hq8, hf⟩ := zw_bdE hf
    have hF := (fr_X3_takeName U hU v0 v1 q5.2 J hv0 _ hq8).tr hF
    obtain ⟨q9, hq9, hf⟩ := zw_bdE hf
    have hF := (fr_X3_take U hU v0 v1 6 1 q8.1 q8.2 hv0 _ hq9).tr hF
    obtain ⟨g10, hf⟩ := zw_gcE hf (by decide)
    obtain ⟨q11, hq11, hf⟩ := zw_bdE hf
    obtain ⟨hF2, uq11⟩ := fr_X1_addStuff U hU (R v0 2) q9.2 q8.2 (hU _ _ hv0) _ hq11
    have hF := hF2.tr hF
    obtain ⟨q26, hq26, hf⟩ := zw_bdE hf
    have hF := (fr_s_X3_readStuff_54_lp U hU v0 v1 q11.1 q8.2 hv0 uq11 _ _ _ hq26).tr hF
    exact (fr_j_X3_readStuff_133 U hU v0 v1 q11.1 q26 q8.2 hv0 uq11 _ hf).tr hF
  ·
    cases hf
    exact hF
theorem fr_X3_readStuff (U : Nat → Prop) {R : zR} (hU : ∀ o j, U o → U (R o j)) (v0 : Nat) (v1 : Nat) (I : zI) (J : zJ) (hv0 : U v0) (o : zI × zJ) (hf : f_X3_readStuff v0 v1 I R J = some o) : zw_FR U (o.1) (I) (o.2) (J) := by
  have hF : zw_FR U I I J J := zw_FR.rf
  unfold f_X3_readStuff at hf
  obtain ⟨g1, hf⟩ := zw_gcE hf (by decide)
  obtain ⟨g2, hf⟩ := zw_gcE hf (by decide)
  rcases zw_ifE hf with ⟨c3, hf⟩ | ⟨c3, hf⟩
  ·
    exact (fr_j_X3_readStuff_20 U hU v0 v1 v0 v1 18 0 I J hv0 hv0 _ hf).tr hF
  ·
    exact (fr_j_X3_readStuff_20 U hU v0 v1 v0 v1 18 1 I J hv0 hv0 _ hf).tr hF
def zp_X4_reckon_17 (I : zI) (J : zJ) (o : (Int32 × zI) ⊕ (zI)) : zI × zJ := match o with | .inl t => (t.2, J) | .inr r => (r, J)
theorem fr_j_X4_reckon_131_17 (U : Nat → Prop) {R : zR} (hU : ∀ o j, U o → U (R o j)) (v0 : Nat) (v1 : Nat) (v3 : Int32) (v4 : Nat) (v5 : Int32) (I : zI) (J : zJ)  (o : (Int32 × zI) ⊕ (zI)) (hf : j_X4_reckon_131_17 v0 v1 v3 v4 v5 I R = some o) : zw_FR U (zp_X4_reckon_17 I J o).1 (I) (zp_X4_reckon_17 I J o).2 (J) := by
  have hF : zw_FR U I I J J := zw_FR.rf
  unfold j_X4_reckon_131_17 at hf
  obtain ⟨x19, ex19, hf⟩ := zw_letE hf
  cases hf
  exact hF
theorem fr_s_X4_reckon_17 (U : Nat → Prop) {R : zR} (hU : ∀ o j, U o → U (R o j)) (v0 : Nat) (v1 : Nat) (v3 : Int32) (v4 : Nat) (J : zJ) (hv0 : U v0) (s : Int32 × zI) (o : (Int32 × zI) ⊕ (zI)) (hf : s_X4_reckon_17 v0 v1 v3 v4 R s = some o) : zw_FR U (zp_X4_reckon_17 s.2 J o).1 (s.2) (zp_X4_reckon_17 s.2 J o).2 (J) := by
  have hF : zw_FR U (s.2) (s.2) (J) (J) := zw_FR.rf
  unfold s_X4_reckon_17 at hf
  rcases zw_ifE hf with ⟨c5, hf⟩ | ⟨c5, hf⟩
  ·
    cases hf
    exact hF
  ·
    obtain ⟨g6, hf⟩ := zw_gcE hf (by decide)
    rcases zw_ifE hf with ⟨c7, hf⟩ | ⟨c7, hf⟩
    ·
      cases hf
      exact hF
    ·
      obtain ⟨g8, hf⟩ := zw_gcE hf (by decide)
      obtain ⟨i9, hf⟩ := zw_inE hf
      obtain ⟨x10, ex10, hf⟩ := zw_letE hf
      rcases zw_ifE hf with ⟨c11, hf⟩ | ⟨c11, hf⟩
      ·
        rcases zw_ifE hf with ⟨c12, hf⟩ | ⟨c12, hf⟩
        ·
          rcases zw_ifE hf with ⟨c13, hf⟩ | ⟨c13, hf⟩
          ·
            obtain ⟨g14, hf⟩ := zw_gcE hf (by decide)
            obtain ⟨q15, hq15, hf⟩ := zw_bdE hf
            have hF := (fr_X4_pop U hU v0 s.2 J hv0 _ hq15).tr hF
            obtain ⟨q16, hq16, hf⟩ := zw_bdE hf
            have hF := (fr_X4_pop U hU v0 q15.2 J hv0 _ hq16).tr hF
            obtain ⟨q17, hq17, hf⟩ := zw_bdE hf
            have hF := (fr_X4_joined U hU v0 x10 q16.1 q15.1 q16.2 J hv0 _ hq17).tr hF
            obtain ⟨q18, hq18, hf⟩ := zw_bdE hf
            have hF := (fr_X4_push U hU v0 q17.1 q17.2 J hv0 _ hq18).tr hF
            exact (fr_j_X4_reckon_131_17 U hU v0 v1 v3 v4 s.1 q18 J  _ hf).tr hF
          ·
            obtain ⟨g20, hf⟩ := zw_gcE hf (by decide)
            obtain ⟨q21, hq21, hf⟩ := zw_bdE hf
            have hF := (fr_X4_pop U hU v0 s.2 J hv0 _ hq21).tr hF
            obtain ⟨q22, hq22, hf⟩ := zw_bdE hf
            have hF := (fr_X4_push U hU v0 (1 - q21.1) q21.2 J hv0 _ hq22).tr hF
            exact (fr_j_X4_reckon_131_17 U hU v0 v1 v3 v4 s.1 q22 J  _ hf).tr hF
        ·
          obtain ⟨g23, hf⟩ := zw_gcE hf (by decide)
          obtain ⟨q24, hq24, hf⟩ := zw_bdE hf
          obtain ⟨g25, hf⟩ := zw_gcE hf (by decide)
          obtain ⟨q26, hq26, hf⟩ := zw_bdE hf
          have hF := (fr_X4_push U hU v0 q24 s.2 J hv0 _ hq26).tr hF
          exact (fr_j_X4_reckon_131_17 U hU v0 v1 v3 v4 s.1 q26 J  _ hf).tr hF
      ·
        obtain ⟨g27, hf⟩ := zw_gcE hf (by decide)
        obtain ⟨i28, hf⟩ := zw_inE hf
        obtain ⟨g29, hf⟩ := zw_gcE hf (by decide)
        obtain ⟨q30, hq30, hf⟩ := zw_bdE hf
        have hF := (fr_X4_push U hU v0 (s.2 (R v1 13) (Int32.toNatClampNeg s.1)) s.2 J hv0 _ hq30).tr hF
        exact (fr_j_X4_reckon_131_17 U hU v0 v1 v3 v4 s.1 q30 J  _ hf).tr hF
theorem fr_s_X4_reckon_17_lp (U : Nat → Prop) {R : zR} (hU : ∀ o j, U o → U (R o j)) (v0 : Nat) (v1 : Nat) (v3 : Int32) (v4 : Nat) (J : zJ) (hv0 : U v0) (n : Nat) (s : Int32 × zI) (r : zI) (h : zw_it (s_X4_reckon_17 v0 v1 v3 v4 R) n s = some r) : zw_FR U (zp_X4_reckon_17 (s.2) (J) (.inr r)).1 (s.2) (zp_X4_reckon_17 (s.2) (J) (.inr r)).2 (J) :=
  zw_itF (A := fun t t0 : Int32 × zI => zw_FR U (t.2) (t0.2) (J) (J)) (Q := fun (r : zI) (t : Int32 × zI) => zw_FR U (zp_X4_reckon_17 (t.2) (J) (.inr r)).1 (t.2) (zp_X4_reckon_17 (t.2) (J) (.inr r)).2 (J)) (fun s o h1 => by
    have h2 := fr_s_X4_reckon_17 U hU v0 v1 v3 v4 J hv0 s o h1
    cases o with
    | inl t => exact h2
    | inr r => exact h2) (fun h1 h2 => zw_FR.tr h2 h1) n s r h
theorem fr_j_X4_reckon_137 (U : Nat → Prop) {R : zR} (hU : ∀ o j, U o → U (R o j)) (v0 : Nat) (I : zI) (J : zJ) (hv0 : U v0) (o : Int32 × zI) (hf : j_X4_reckon_137 v0 I R = some o) : zw_FR U (o.2) (I) (J) (J) := by
  have hF : zw_FR U I I J J := zw_FR.rf
  unfold j_X4_reckon_137 at hf
  obtain ⟨g32, hf⟩ := zw_gcE hf (by decide)
  obtain ⟨q33, hq33, hf⟩ := zw_bdE hf
  have hF := (fr_X4_pop U hU v0 I J hv0 _ hq33).tr hF
  cases hf
  exact hF
theorem fr_X4_reckon (U : Nat → Prop) {R : zR} (hU : ∀ o j, U o → U (R o j)) (v0 : Nat) (v1 : Nat) (v2 : Int32) (v3 : Int32) (v4 : Nat) (I : zI) (J : zJ) (hv0 : U v0) (o : Int32 × zI) (hf : f_X4_reckon v0 v1 v2 v3 v4 I R = some o) : zw_FR U (o.2) (I) (J) (J) := by
  have hF : zw_FR U I I J J := zw_FR.rf
  unfold f_X4_reckon at hf
  obtain ⟨g1, hf⟩ := zw_gcE hf (by decide)
  obtain ⟨I2, eI2, hf⟩ := zw_letE hf
  have hF := hF.wI eI2 hv0
  obtain ⟨I3, eI3, hf⟩ := zw_letE hf
  have hF := hF.wI eI3 hv0
  obtain ⟨x4, ex4, hf⟩ := zw_letE hf
  obtain ⟨q31, hq31, hf⟩ := zw_bdE hf
  have hF := (fr_s_X4_reckon_17_lp U hU v0 v1 v3 v4 J hv0 _ _ _ hq31).tr hF
  exact (fr_j_X4_reckon_137 U hU v0 q31 J hv0 _ hf).tr hF
def zp_X6_sumUp_4 (I : zI) (J : zJ) (o : (Int32 × Int32) ⊕ (Int32)) : zI × zJ := match o with | .inl t => (I, J) | .inr r => (I, J)
theorem fr_X6_sumUp (U : Nat → Prop) {R : zR} (hU : ∀ o j, U o → U (R o j)) (v0 : Nat) (v1 : Nat) (I : zI) (J : zJ) (hv0 : U v0) (o : zI) (hf : f_X6_sumUp v0 v1 I R = some o) : zw_FR U (o) (I) (J) (J) := by
  have hF : zw_FR U I I J J := zw_FR.rf
  unfold f_X6_sumUp at hf
  obtain ⟨q8, hq8, hf⟩ := zw_bdE hf
  obtain ⟨g9, hf⟩ := zw_gcE hf (by decide)
  obtain ⟨g10, hf⟩ := zw_gcE hf (by decide)
  obtain ⟨g11, hf⟩ := zw_gcE hf (by decide)
  obtain ⟨g12, hf⟩ := zw_gcE hf (by decide)
  obtain ⟨i13, hf⟩ := zw_inE hf
  obtain ⟨i14, hf⟩ := zw_inE hf
  obtain ⟨I15, eI15, hf⟩ := zw_letE hf
  have hF := hF.wI eI15 (hU _ _ hv0)
  obtain ⟨i16, hf⟩ := zw_inE hf
  obtain ⟨i17, hf⟩ := zw_inE hf
  obtain ⟨I18, eI18, hf⟩ := zw_letE hf
  have hF := hF.wI eI18 (hU _ _ hv0)
  obtain ⟨q19, hq19, hf⟩ := zw_bdE hf
  obtain ⟨i20, hf⟩ := zw_inE hf
  obtain ⟨I21, eI21, hf⟩ := zw_letE hf
  have hF := hF.wI eI21 (hU _ _ hv0)
  obtain ⟨q22, hq22, hf⟩ := zw_bdE hf
  obtain ⟨i23, hf⟩ := zw_inE hf
  obtain ⟨I24, eI24, hf⟩ := zw_letE hf
  have hF := hF.wI eI24 (hU _ _ hv0)
  obtain ⟨i25, hf⟩ := zw_inE hf
  obtain ⟨I26, eI26, hf⟩ := zw_letE hf
  have hF := hF.wI eI26 (hU _ _ hv0)
  obtain ⟨i27, hf⟩ := zw_inE hf
  obtain ⟨i28, hf⟩ := zw_inE hf
  obtain ⟨I29, eI29, hf⟩ := zw_letE hf
  have hF := hF.wI eI29 (hU _ _ hv0)
  obtain ⟨i30, hf⟩ := zw_inE hf
  obtain ⟨i31, hf⟩ := zw_inE hf
  obtain ⟨I32, eI32, hf⟩ := zw_letE hf
  have hF := hF.wI eI32 (hU _ _ hv0)
  obtain ⟨i33, hf⟩ := zw_inE hf
  obtain ⟨i34, hf⟩ := zw_inE hf
  obtain ⟨I35, eI35, hf⟩ := zw_letE hf
  have hF := hF.wI eI35 (hU _ _ hv0)
  cases hf
  exact hF
theorem fr_X10_ray (U : Nat → Prop) {R : zR} (hU : ∀ o j, U o → U (R o j)) (v0 : Nat) (v1 : Int32) (v2 : Int32) (v3 : Int32) (v4 : Int32) (v5 : Int32) (v6 : Int32) (I : zI) (J : zJ) (hv0 : U v0) (o : Int32 × zI) (hf : f_X10_ray v0 v1 v2 v3 v4 v5 v6 I R = some o) : zw_FR U (o.2) (I) (J) (J) := by
  have hF : zw_FR U I I J J := zw_FR.rf
  unfold f_X10_ray at hf
  obtain ⟨g1, hf⟩ := zw_gcE hf (by decide)
  obtain ⟨q2, hq2, hf⟩ := zw_bdE hf
  rcases zw_ifE hf with ⟨c3, hf⟩ | ⟨c3, hf⟩
  ·
    cases hf
    exact hF
  ·
    obtain ⟨q4, hq4, hf⟩ := zw_bdE hf
    rcases zw_ifE hf with ⟨c5, hf⟩ | ⟨c5, hf⟩
    ·
      cases hf
      exact hF
    ·
      obtain ⟨q6, hq6, hf⟩ := zw_bdE hf
      rcases zw_ifE hf with ⟨c7, hf⟩ | ⟨c7, hf⟩
      ·
        obtain ⟨g8, hf⟩ := zw_gcE hf (by decide)
        obtain ⟨g9, hf⟩ := zw_gcE hf (by decide)
        obtain ⟨i10, hf⟩ := zw_inE hf
        obtain ⟨g11, hf⟩ := zw_gcE hf (by decide)
        obtain ⟨q12, hq12, hf⟩ := zw_bdE hf
        rcases zw_ifE hf with ⟨c13, hf⟩ | ⟨c13, hf⟩
        ·
          cases hf
          exact hF
        ·
          rcases zw_ifE hf with ⟨c14, hf⟩ | ⟨c14, hf⟩
          ·
            cases hf
            exact hF
          ·
            rcases zw_ifE hf with ⟨c15, hf⟩ | ⟨c15, hf⟩
            ·
              obtain ⟨g16, hf⟩ := zw_gcE hf (by decide)
              obtain ⟨g17, hf⟩ := zw_gcE hf (by decide)
              obtain ⟨i18, hf⟩ := zw_inE hf
              obtain ⟨g19, hf⟩ := zw_gcE hf (by decide)
              obtain ⟨q20, hq20, hf⟩ := zw_bdE hf
              have hF := (fr_X2_begin U hU (R v0 3) (R (R (R v0 2) 0) (Int32.toNatClampNeg v2)) v3 I J (hU _ _ hv0) _ hq20).tr hF
              obtain ⟨q21, hq21, hf⟩ := zw_bdE hf
              have hF := (fr_X2_follow U hU (R v0 3) (R (R (R v0 2) 2) (Int32.toNatClampNeg v1)) v4 v5 v6 q20 J (hU _ _ hv0) _ hq21).tr hF
              obtain ⟨I22, eI22, hf⟩ := zw_letE hf
              have hF := hF.wI eI22 hv0
              cases hf
              exact hF
            ·
              cases hf
              exact hF
      ·
        cases hf
        exact hF
def zp_X11_expression_12 (I : zI) (J : zJ) (o : (Int32 × zI) ⊕ ((zI) ⊕ ((zI) ⊕ (zI)))) : zI × zJ := match o with | .inl t => (t.2, J) | .inr r => (match r with | .inl r0 => (r0, J) | .inr t0 => (match t0 with | .inl r1 => (r1, J) | .inr t1 => (t1, J)))
def zp_X11_expression_23 (I : zI) (J : zJ) (o : (zI) ⊕ (zI)) : zI × zJ := match o with | .inl t => (t, J) | .inr r => (r, J)
theorem fr_j_X11_expression_46_23 (U : Nat → Prop) {R : zR} (hU : ∀ o j, U o → U (R o j)) (v0 : Nat) (v1 : Int32) (I : zI) (J : zJ) (hv0 : U v0) (o : (zI) ⊕ (zI)) (hf : j_X11_expression_46_23 v0 v1 I R = some o) : zw_FR U (zp_X11_expression_23 I J o).1 (I) (zp_X11_expression_23 I J o).2 (J) := by
  have hF : zw_FR U I I J J := zw_FR.rf
  unfold j_X11_expression_46_23 at hf
  obtain ⟨g11, hf⟩ := zw_gcE hf (by decide)
  obtain ⟨I12, eI12, hf⟩ := zw_letE hf
  have hF := hF.wI eI12 hv0
  obtain ⟨q13, hq13, hf⟩ := zw_bdE hf
  have hF := (fr_X11_goesOn U hU v0 I12 J hv0 _ hq13).tr hF
  obtain ⟨g14, hf⟩ := zw_gcE hf (by decide)
  obtain ⟨i15, hf⟩ := zw_inE hf
  obtain ⟨I16, eI16, hf⟩ := zw_letE hf
  have hF := hF.wI eI16 (hU _ _ hv0)
  obtain ⟨I17, eI17, hf⟩ := zw_letE hf
  have hF := hF.wI eI17 hv0
  cases hf
  exact hF
theorem fr_s_X11_expression_23 (U : Nat → Prop) {R : zR} (hU : ∀ o j, U o → U (R o j)) (v0 : Nat) (v1 : Int32) (J : zJ) (hv0 : U v0) (s : zI) (o : (zI) ⊕ (zI)) (hf : s_X11_expression_23 v0 v1 R s = some o) : zw_FR U (zp_X11_expression_23 s J o).1 (s) (zp_X11_expression_23 s J o).2 (J) := by
  have hF : zw_FR U (s) (s) (J) (J) := zw_FR.rf
  unfold s_X11_expression_23 at hf
  obtain ⟨g7, hf⟩ := zw_gcE hf (by decide)
  obtain ⟨q8, hq8, hf⟩ := zw_bdE hf
  rcases zw_ifE hf with ⟨c9, hf⟩ | ⟨c9, hf⟩
  ·
    cases hf
    exact hF
  ·
    rcases zw_ifE hf with ⟨c10, hf⟩ | ⟨c10, hf⟩
    ·
      exact (fr_j_X11_expression_46_23 U hU v0 v1 s J hv0 _ hf).tr hF
    ·
      obtain ⟨q18, hq18, hf⟩ := zw_bdE hf
      have hF := (fr_X11_fail U hU v0 2 s J hv0 _ hq18).tr hF
      exact (fr_j_X11_expression_46_23 U hU v0 v1 q18 J hv0 _ hf).tr hF
theorem fr_s_X11_expression_23_lp (U : Nat → Prop) {R : zR} (hU : ∀ o j, U o → U (R o j)) (v0 : Nat) (v1 : Int32) (J : zJ) (hv0 : U v0) (n : Nat) (s : zI) (r : zI) (h : zw_it (s_X11_expression_23 v0 v1 R) n s = some r) : zw_FR U (zp_X11_expression_23 (s) (J) (.inr r)).1 (s) (zp_X11_expression_23 (s) (J) (.inr r)).2 (J) :=
  zw_itF (A := fun t t0 : zI => zw_FR U (t) (t0) (J) (J)) (Q := fun (r : zI) (t : zI) => zw_FR U (zp_X11_expression_23 (t) (J) (.inr r)).1 (t) (zp_X11_expression_23 (t) (J) (.inr r)).2 (J)) (fun s o h1 => by
    have h2 := fr_s_X11_expression_23 U hU v0 v1 J hv0 s o h1
    cases o with
    | inl t => exact h2
    | inr r => exact h2) (fun h1 h2 => zw_FR.tr h2 h1) n s r h
def zp_X11_expression_96 (I : zI) (J : zJ) (o : (zI) ⊕ (zI)) : zI × zJ := match o with | .inl t => (t, J) | .inr r => (r, J)
theorem fr_s_X11_expression_96 (U : Nat → Prop) {R : zR} (hU : ∀ o j, U o → U (R o j)) (v0 : Nat) (v1 : Int32) (J : zJ) (hv0 : U v0) (s : zI) (o : (zI) ⊕ (zI)) (hf : s_X11_expression_96 v0 v1 R s = some o) : zw_FR U (zp_X11_expression_96 s J o).1 (s) (zp_X11_expression_96 s J o).2 (J) := by
  have hF : zw_FR U (s) (s) (J) (J) := zw_FR.rf
  unfold s_X11_expression_96 at hf
  obtain ⟨g22, hf⟩ := zw_gcE hf (by decide)
  obtain ⟨q23, hq23, hf⟩ := zw_bdE hf
  rcases zw_ifE hf with ⟨c24, hf⟩ | ⟨c24, hf⟩
  ·
    cases hf
    exact hF
  ·
    rcases zw_ifE hf with ⟨c25, hf⟩ | ⟨c25, hf⟩
    ·
      cases hf
      exact hF
    ·
      obtain ⟨q26, hq26, hf⟩ := zw_bdE hf
      have hF := (fr_X11_comesOut U hU v0 0 s J hv0 _ hq26).tr hF
      obtain ⟨I27, eI27, hf⟩ := zw_letE hf
      have hF := hF.wI eI27 hv0
      obtain ⟨I28, eI28, hf⟩ := zw_letE hf
      have hF := hF.wI eI28 hv0
      obtain ⟨q29, hq29, hf⟩ := zw_bdE hf
      have hF := (fr_X11_goesOn U hU v0 I28 J hv0 _ hq29).tr hF
      cases hf
      exact hF
theorem fr_s_X11_expression_96_lp (U : Nat → Prop) {R : zR} (hU : ∀ o j, U o → U (R o j)) (v0 : Nat) (v1 : Int32) (J : zJ) (hv0 : U v0) (n : Nat) (s : zI) (r : zI) (h : zw_it (s_X11_expression_96 v0 v1 R) n s = some r) : zw_FR U (zp_X11_expression_96 (s) (J) (.inr r)).1 (s) (zp_X11_expression_96 (s) (J) (.inr r)).2 (J) :=
  zw_itF (A := fun t t0 : zI => zw_FR U (t) (t0) (J) (J)) (Q := fun (r : zI) (t : zI) => zw_FR U (zp_X11_expression_96 (t) (J) (.inr r)).1 (t) (zp_X11_expression_96 (t) (J) (.inr r)).2 (J)) (fun s o h1 => by
    have h2 := fr_s_X11_expression_96 U hU v0 v1 J hv0 s o h1
    cases o with
    | inl t => exact h2
    | inr r => exact h2) (fun h1 h2 => zw_FR.tr h2 h1) n s r h
theorem fr_j_X11_expression_234_12 (U : Nat → Prop) {R : zR} (hU : ∀ o j, U o → U (R o j)) (v0 : Nat) (v1 : Int32) (v2 : Int32) (s0 : Nat) (s1 : Int32) (I : zI) (J : zJ) (hv0 : U v0) (hs0 : U s0) (o : (Int32 × zI) ⊕ ((zI) ⊕ ((zI) ⊕ (zI)))) (hf : j_X11_expression_234_12 v0 v1 v2 s0 s1 I R = some o) : zw_FR U (zp_X11_expression_12 I J o).1 (I) (zp_X11_expression_12 I J o).2 (J) := by
  have hF : zw_FR U I I J J := zw_FR.rf
  unfold j_X11_expression_234_12 at hf
  obtain ⟨g38, hf⟩ := zw_gcE hf (by decide)
  obtain ⟨q39, hq39, hf⟩ := zw_bdE hf
  have hF := (fr_X11_comesOut U hU s0 s1 I J hs0 _ hq39).tr hF
  obtain ⟨g40, hf⟩ := zw_gcE hf (by decide)
  obtain ⟨g41, hf⟩ := zw_gcE hf (by decide)
  obtain ⟨g42, hf⟩ := zw_gcE hf (by decide)
  obtain ⟨i43, hf⟩ := zw_inE hf
  obtain ⟨i44, hf⟩ := zw_inE hf
  obtain ⟨I45, eI45, hf⟩ := zw_letE hf
  have hF := hF.wI eI45 (hU _ _ hv0)
  obtain ⟨I46, eI46, hf⟩ := zw_letE hf
  have hF := hF.wI eI46 hv0
  obtain ⟨q47, hq47, hf⟩ := zw_bdE hf
  have hF := (fr_X11_goesOn U hU v0 I46 J hv0 _ hq47).tr hF
  cases hf
  exact hF
theorem fr_j_X11_expression_229_12 (U : Nat → Prop) {R : zR} (hU : ∀ o j, U o → U (R o j)) (v0 : Nat) (v1 : Int32) (v2 : Int32) (s0 : Nat) (I : zI) (J : zJ) (hv0 : U v0) (hs0 : U s0) (o : (Int32 × zI) ⊕ ((zI) ⊕ ((zI) ⊕ (zI)))) (hf : j_X11_expression_229_12 v0 v1 v2 s0 I R = some o) : zw_FR U (zp_X11_expression_12 I J o).1 (I) (zp_X11_expression_12 I J o).2 (J) := by
  have hF : zw_FR U I I J J := zw_FR.rf
  unfold j_X11_expression_229_12 at hf
  exact (fr_j_X11_expression_234_12 U hU v0 v1 v2 s0 1 I J hv0 hs0 _ hf).tr hF
theorem fr_j_X11_expression_186_12 (U : Nat → Prop) {R : zR} (hU : ∀ o j, U o → U (R o j)) (v0 : Nat) (v1 : Int32) (s0 : Int32) (I : zI) (J : zJ) (hv0 : U v0) (o : (Int32 × zI) ⊕ ((zI) ⊕ ((zI) ⊕ (zI)))) (hf : j_X11_expression_186_12 v0 v1 s0 I R = some o) : zw_FR U (zp_X11_expression_12 I J o).1 (I) (zp_X11_expression_12 I J o).2 (J) := by
  have hF : zw_FR U I I J J := zw_FR.rf
  unfold j_X11_expression_186_12 at hf
  rcases zw_ifE hf with ⟨c34, hf⟩ | ⟨c34, hf⟩
  ·
    obtain ⟨g35, hf⟩ := zw_gcE hf (by decide)
    obtain ⟨q36, hq36, hf⟩ := zw_bdE hf
    rcases zw_ifE hf with ⟨c37, hf⟩ | ⟨c37, hf⟩
    ·
      exact (fr_j_X11_expression_229_12 U hU v0 v1 s0 v0 I J hv0 hv0 _ hf).tr hF
    ·
      obtain ⟨q48, hq48, hf⟩ := zw_bdE hf
      rcases zw_ifE hf with ⟨c49, hf⟩ | ⟨c49, hf⟩
      ·
        exact (fr_j_X11_expression_234_12 U hU v0 v1 s0 v0 0 I J hv0 hv0 _ hf).tr hF
      ·
        exact (fr_j_X11_expression_229_12 U hU v0 v1 s0 v0 I J hv0 hv0 _ hf).tr hF
  ·
    cases hf
    exact hF
theorem fr_j_X11_expression_181_12 (U : Nat → Prop) {R : zR} (hU : ∀ o j, U o → U (R o j)) (v0 : Nat) (v1 : Int32) (I : zI) (J : zJ) (hv0 : U v0) (o : (Int32 × zI) ⊕ ((zI) ⊕ ((zI) ⊕ (zI)))) (hf : j_X11_expression_181_12 v0 v1 I R = some o) : zw_FR U (zp_X11_expression_12 I J o).1 (I) (zp_X11_expression_12 I J o).2 (J) := by
  have hF : zw_FR U I I J J := zw_FR.rf
  unfold j_X11_expression_181_12 at hf
  exact (fr_j_X11_expression_186_12 U hU v0 v1 1 I J hv0 _ hf).tr hF
theorem fr_j_X11_expression_145_12 (U : Nat → Prop) {R : zR} (hU : ∀ o j, U o → U (R o j)) (v0 : Nat) (v1 : Int32) (I : zI) (J : zJ) (hv0 : U v0) (o : (Int32 × zI) ⊕ ((zI) ⊕ ((zI) ⊕ (zI)))) (hf : j_X11_expression_145_12 v0 v1 I R = some o) : zw_FR U (zp_X11_expression_12 I J o).1 (I) (zp_X11_expression_12 I J o).2 (J) := by
  have hF : zw_FR U I I J J := zw_FR.rf
  unfold j_X11_expression_145_12 at hf
  obtain ⟨g31, hf⟩ := zw_gcE hf (by decide)
  obtain ⟨q32, hq32, hf⟩ := zw_bdE hf
  rcases zw_ifE hf with ⟨c33, hf⟩ | ⟨c33, hf⟩
  ·
    exact (fr_j_X11_expression_181_12 U hU v0 v1 I J hv0 _ hf).tr hF
  ·
    obtain ⟨q50, hq50, hf⟩ := zw_bdE hf
    rcases zw_ifE hf with ⟨c51, hf⟩ | ⟨c51, hf⟩
    ·
      exact (fr_j_X11_expression_181_12 U hU v0 v1 I J hv0 _ hf).tr hF
    ·
      obtain ⟨q52, hq52, hf⟩ := zw_bdE hf
      rcases zw_ifE hf with ⟨c53, hf⟩ | ⟨c53, hf⟩
      ·
        exact (fr_j_X11_expression_181_12 U hU v0 v1 I J hv0 _ hf).tr hF
      ·
        obtain ⟨q54, hq54, hf⟩ := zw_bdE hf
        rcases zw_ifE hf with ⟨c55, hf⟩ | ⟨c55, hf⟩
        ·
          exact (fr_j_X11_expression_186_12 U hU v0 v1 0 I J hv0 _ hf).tr hF
        ·
          exact (fr_j_X11_expression_181_12 U hU v0 v1 I J hv0 _ hf).tr hF
theorem fr_s_X11_expression_12 (U : Nat → Prop) {R : zR} (hU : ∀ o j, U o → U (R o j)) (v0 : Nat) (v1 : Int32) (J : zJ) (hv0 : U v0) (s : Int32 × zI) (o : (Int32 × zI) ⊕ ((zI) ⊕ ((zI) ⊕ (zI)))) (hf : s_X11_expression_12 v0 v1 R s = some o) : zw_FR U (zp_X11_expression_12 s.2 J o).1 (s.2) (zp_X11_expression_12 s.2 J o).2 (J) := by
  have hF : zw_FR U (s.2) (s.2) (J) (J) := zw_FR.rf
  unfold s_X11_expression_12 at hf
  rcases zw_ifE hf with ⟨c4, hf⟩ | ⟨c4, hf⟩
  ·
    cases hf
    exact hF
  ·
    obtain ⟨g5, hf⟩ := zw_gcE hf (by decide)
    rcases zw_ifE hf with ⟨c6, hf⟩ | ⟨c6, hf⟩
    ·
      cases hf
      exact hF
    ·
      obtain ⟨q19, hq19, hf⟩ := zw_bdE hf
      have hF := (fr_s_X11_expression_23_lp U hU v0 v1 J hv0 _ _ _ hq19).tr hF
      obtain ⟨q20, hq20, hf⟩ := zw_bdE hf
      have hF := (fr_X11_unit U hU v0 q19 J hv0 _ hq20).tr hF
      rcases zw_ifE hf with ⟨c21, hf⟩ | ⟨c21, hf⟩
      ·
        obtain ⟨q30, hq30, hf⟩ := zw_bdE hf
        have hF := (fr_s_X11_expression_96_lp U hU v0 v1 J hv0 _ _ _ hq30).tr hF
        exact (fr_j_X11_expression_145_12 U hU v0 v1 q30 J hv0 _ hf).tr hF
      ·
        cases hf
        exact hF
theorem fr_s_X11_expression_12_lp (U : Nat → Prop) {R : zR} (hU : ∀ o j, U o → U (R o j)) (v0 : Nat) (v1 : Int32) (J : zJ) (hv0 : U v0) (n : Nat) (s : Int32 × zI) (r : (zI) ⊕ ((zI) ⊕ (zI))) (h : zw_it (s_X11_expression_12 v0 v1 R) n s = some r) : zw_FR U (zp_X11_expression_12 (s.2) (J) (.inr r)).1 (s.2) (zp_X11_expression_12 (s.2) (J) (.inr r)).2 (J) :=
  zw_itF (A := fun t t0 : Int32 × zI => zw_FR U (t.2) (t0.2) (J) (J)) (Q := fun (r : (zI) ⊕ ((zI) ⊕ (zI))) (t : Int32 × zI) => zw_FR U (zp_X11_expression_12 (t.2) (J) (.inr r)).1 (t.2) (zp_X11_expression_12 (t.2) (J) (.inr r)).2 (J)) (fun s o h1 => by
    have h2 := fr_s_X11_expression_12 U hU v0 v1 J hv0 s o h1
    cases o with
    | inl t => exact h2
    | inr r => exact h2) (fun h1 h2 => zw_FR.tr h2 h1) n s r h
theorem fr_j_X11_expression_204 (U : Nat → Prop) {R : zR} (hU : ∀ o j, U o → U (R o j)) (v0 : Nat) (I : zI) (J : zJ) (hv0 : U v0) (o : zI) (hf : j_X11_expression_204 v0 I R = some o) : zw_FR U (o) (I) (J) (J) := by
  have hF : zw_FR U I I J J := zw_FR.rf
  unfold j_X11_expression_204 at hf
  obtain ⟨g62, hf⟩ := zw_gcE hf (by decide)
  obtain ⟨q63, hq63, hf⟩ := zw_bdE hf
  have hF := (fr_X11_comesOut U hU v0 0 I J hv0 _ hq63).tr hF
  cases hf
  exact hF
theorem fr_X11_expression (U : Nat → Prop) {R : zR} (hU : ∀ o j, U o → U (R o j)) (v0 : Nat) (I : zI) (J : zJ) (hv0 : U v0) (o : zI) (hf : f_X11_expression v0 I R = some o) : zw_FR U (o) (I) (J) (J) := by
  have hF : zw_FR U I I J J := zw_FR.rf
  unfold f_X11_expression at hf
  obtain ⟨g1, hf⟩ := zw_gcE hf (by decide)
  obtain ⟨I2, eI2, hf⟩ := zw_letE hf
  have hF := hF.wI eI2 hv0
  obtain ⟨x3, ex3, hf⟩ := zw_letE hf
  obtain ⟨q56, hq56, hf⟩ := zw_bdE hf
  have hF := (fr_s_X11_expression_12_lp U hU v0 x3 J hv0 _ _ _ hq56).tr hF
  rcases q56 with a57 | a58
  ·
    cases hf
    exact hF
  ·
    rcases a58 with a59 | a60
    ·
      cases hf
      exact hF
    ·
      rcases zw_ifE hf with ⟨c61, hf⟩ | ⟨c61, hf⟩
      ·
        exact (fr_j_X11_expression_204 U hU v0 a60 J hv0 _ hf).tr hF
      ·
        obtain ⟨q64, hq64, hf⟩ := zw_bdE hf
        have hF := (fr_X11_fail U hU v0 1 a60 J hv0 _ hq64).tr hF
        exact (fr_j_X11_expression_204 U hU v0 q64 J hv0 _ hf).tr hF
def zp_X11_grade_15 (I : zI) (J : zJ) (o : (Int32 × zI) ⊕ ((zI) ⊕ (Int32 × zI))) : zI × zJ := match o with | .inl t => (t.2, J) | .inr r => (match r with | .inl r0 => (r0, J) | .inr t0 => (t0.2, J))
theorem fr_s_X11_grade_15 (U : Nat → Prop) {R : zR} (hU : ∀ o j, U o → U (R o j)) (v0 : Nat) (J : zJ) (hv0 : U v0) (s : Int32 × zI) (o : (Int32 × zI) ⊕ ((zI) ⊕ (Int32 × zI))) (hf : s_X11_grade_15 v0 R s = some o) : zw_FR U (zp_X11_grade_15 s.2 J o).1 (s.2) (zp_X11_grade_15 s.2 J o).2 (J) := by
  have hF : zw_FR U (s.2) (s.2) (J) (J) := zw_FR.rf
  unfold s_X11_grade_15 at hf
  obtain ⟨g4, hf⟩ := zw_gcE hf (by decide)
  obtain ⟨g5, hf⟩ := zw_gcE hf (by decide)
  obtain ⟨i6, hf⟩ := zw_inE hf
  rcases zw_ifE hf with ⟨c7, hf⟩ | ⟨c7, hf⟩
  ·
    cases hf
    exact hF
  ·
    obtain ⟨q8, hq8, hf⟩ := zw_bdE hf
    have hF := (fr_X11_holds U hU v0 ((16 * (s.2 v0 18)) + s.1) s.2 J hv0 _ hq8).tr hF
    rcases zw_ifE hf with ⟨c9, hf⟩ | ⟨c9, hf⟩
    ·
      obtain ⟨x10, ex10, hf⟩ := zw_letE hf
      cases hf
      exact hF
    ·
      cases hf
      exact hF
theorem fr_s_X11_grade_15_lp (U : Nat → Prop) {R : zR} (hU : ∀ o j, U o → U (R o j)) (v0 : Nat) (J : zJ) (hv0 : U v0) (n : Nat) (s : Int32 × zI) (r : (zI) ⊕ (Int32 × zI)) (h : zw_it (s_X11_grade_15 v0 R) n s = some r) : zw_FR U (zp_X11_grade_15 (s.2) (J) (.inr r)).1 (s.2) (zp_X11_grade_15 (s.2) (J) (.inr r)).2 (J) :=
  zw_itF (A := fun t t0 : Int32 × zI => zw_FR U (t.2) (t0.2) (J) (J)) (Q := fun (r : (zI) ⊕ (Int32 × zI)) (t : Int32 × zI) => zw_FR U (zp_X11_grade_15 (t.2) (J) (.inr r)).1 (t.2) (zp_X11_grade_15 (t.2) (J) (.inr r)).2 (J)) (fun s o h1 => by
    have h2 := fr_s_X11_grade_15 U hU v0 J hv0 s o h1
    cases o with
    | inl t => exact h2
    | inr r => exact h2) (fun h1 h2 => zw_FR.tr h2 h1) n s r h
theorem fr_X11_grade (U : Nat → Prop) {R : zR} (hU : ∀ o j, U o → U (R o j)) (v0 : Nat) (I : zI) (J : zJ) (hv0 : U v0) (o : Int32 × zI) (hf : f_X11_grade v0 I R = some o) : zw_FR U (o.2) (I) (J) (J) := by
  have hF : zw_FR U I I J J := zw_FR.rf
  unfold f_X11_grade at hf
  obtain ⟨g1, hf⟩ := zw_gcE hf (by decide)
  rcases zw_ifE hf with ⟨c2, hf⟩ | ⟨c2, hf⟩
  ·
    obtain ⟨q3, hq3, hf⟩ := zw_bdE hf
    have hF := (fr_X11_again U hU v0 I J hv0 _ hq3).tr hF
    obtain ⟨q11, hq11, hf⟩ := zw_bdE hf
    have hF := (fr_s_X11_grade_15_lp U hU v0 J hv0 _ _ _ hq11).tr hF
    rcases q11 with a12 | a13
    ·
      cases hf
      exact hF
    ·
      cases hf
      exact hF
  ·
    cases hf
    exact hF
def zp_X11_lamp_76 (I : zI) (J : zJ) (o : (Int32 × Int32) ⊕ (Int32 × Int32)) : zI × zJ := match o with | .inl t => (I, J) | .inr r => (I, J)
theorem fr_j_X11_lamp_164 (U : Nat → Prop) {R : zR} (hU : ∀ o j, U o → U (R o j)) (v0 : Nat) (v6 : Int32) (I : zI) (J : zJ) (hv0 : U v0) (o : zI) (hf : j_X11_lamp_164 v0 v6 I R = some o) : zw_FR U (o) (I) (J) (J) := by
  have hF : zw_FR U I I J J := zw_FR.rf
  unfold j_X11_lamp_164 at hf
  obtain ⟨g26, hf⟩ := zw_gcE hf (by decide)
  obtain ⟨I27, eI27, hf⟩ := zw_letE hf
  have hF := hF.wI eI27 hv0
  cases hf
  exact hF
theorem fr_j_X11_lamp_138 (U : Nat → Prop) {R : zR} (hU : ∀ o j, U o → U (R o j)) (v0 : Nat) (v1 : Int32) (v2 : Int32) (v3 : Int32) (v4 : Int32) (v6 : Int32) (v7 : Int32) (v8 : Int32) (v9 : Int32) (I : zI) (J : zJ) (hv0 : U v0) (o : zI) (hf : j_X11_lamp_138 v0 v1 v2 v3 v4 v6 v7 v8 v9 I R = some o) : zw_FR U (o) (I) (J) (J) := by
  have hF : zw_FR U I I J J := zw_FR.rf
  unfold j_X11_lamp_138 at hf
  obtain ⟨g23, hf⟩ := zw_gcE hf (by decide)
  obtain ⟨q24, hq24, hf⟩ := zw_bdE hf
  rcases zw_ifE hf with ⟨c25, hf⟩ | ⟨c25, hf⟩
  ·
    exact (fr_j_X11_lamp_164 U hU v0 v6 I J hv0 _ hf).tr hF
  ·
    obtain ⟨q28, hq28, hf⟩ := zw_bdE hf
    rcases zw_ifE hf with ⟨c29, hf⟩ | ⟨c29, hf⟩
    ·
      obtain ⟨g30, hf⟩ := zw_gcE hf (by decide)
      obtain ⟨i31, hf⟩ := zw_inE hf
      obtain ⟨x32, ex32, hf⟩ := zw_letE hf
      obtain ⟨I33, eI33, hf⟩ := zw_letE hf
      have hF := hF.wI eI33 hv0
      obtain ⟨q34, hq34, hf⟩ := zw_bdE hf
      have hF := (fr_X11_follows U hU v0 v1 v2 v3 v8 v9 v7 x32 I33 J hv0 _ hq34).tr hF
      cases hf
      exact hF
    ·
      exact (fr_j_X11_lamp_164 U hU v0 v6 I J hv0 _ hf).tr hF
theorem fr_j_X11_lamp_74 (U : Nat → Prop) {R : zR} (hU : ∀ o j, U o → U (R o j)) (v0 : Nat) (v1 : Int32) (v2 : Int32) (v3 : Int32) (v4 : Int32) (v6 : Int32) (v7 : Int32) (v8 : Int32) (s0 : Int32) (I : zI) (J : zJ) (hv0 : U v0) (o : zI) (hf : j_X11_lamp_74 v0 v1 v2 v3 v4 v6 v7 v8 s0 I R = some o) : zw_FR U (o) (I) (J) (J) := by
  have hF : zw_FR U I I J J := zw_FR.rf
  unfold j_X11_lamp_74 at hf
  obtain ⟨q22, hq22, hf⟩ := zw_bdE hf
  exact (fr_j_X11_lamp_138 U hU v0 v1 v2 v3 v4 v6 v7 q22.1 q22.2 I J hv0 _ hf).tr hF
theorem fr_j_X11_lamp_61 (U : Nat → Prop) {R : zR} (hU : ∀ o j, U o → U (R o j)) (v0 : Nat) (v1 : Int32) (v2 : Int32) (v3 : Int32) (v4 : Int32) (v5 : Int32) (v6 : Int32) (v7 : Int32) (s0 : Int32) (I : zI) (J : zJ) (hv0 : U v0) (o : zI) (hf : j_X11_lamp_61 v0 v1 v2 v3 v4 v5 v6 v7 s0 I R = some o) : zw_FR U (o) (I) (J) (J) := by
  have hF : zw_FR U I I J J := zw_FR.rf
  unfold j_X11_lamp_61 at hf
  rcases zw_ifE hf with ⟨c7, hf⟩ | ⟨c7, hf⟩
  ·
    exact (fr_j_X11_lamp_74 U hU v0 v1 v2 v3 v4 v6 v7 s0 v5 I J hv0 _ hf).tr hF
  ·
    exact (fr_j_X11_lamp_74 U hU v0 v1 v2 v3 v4 v6 v7 s0 0 I J hv0 _ hf).tr hF
theorem fr_j_X11_lamp_31 (U : Nat → Prop) {R : zR} (hU : ∀ o j, U o → U (R o j)) (v0 : Nat) (v1 : Int32) (v2 : Int32) (v3 : Int32) (v4 : Int32) (v5 : Int32) (v6 : Int32) (s0 : Int32) (I : zI) (J : zJ) (hv0 : U v0) (o : zI) (hf : j_X11_lamp_31 v0 v1 v2 v3 v4 v5 v6 s0 I R = some o) : zw_FR U (o) (I) (J) (J) := by
  have hF : zw_FR U I I J J := zw_FR.rf
  unfold j_X11_lamp_31 at hf
  rcases zw_ifE hf with ⟨c5, hf⟩ | ⟨c5, hf⟩
  ·
    rcases zw_ifE hf with ⟨c6, hf⟩ | ⟨c6, hf⟩
    ·
      exact (fr_j_X11_lamp_61 U hU v0 v1 v2 v3 v4 v5 v6 s0 0 I J hv0 _ hf).tr hF
    ·
      obtain ⟨g35, hf⟩ := zw_gcE hf (by decide)
      obtain ⟨g36, hf⟩ := zw_gcE hf (by decide)
      obtain ⟨i37, hf⟩ := zw_inE hf
      exact (fr_j_X11_lamp_61 U hU v0 v1 v2 v3 v4 v5 v6 s0 ((I (R v0 28) (Int32.toNatClampNeg v1)) - 1) I J hv0 _ hf).tr hF
  ·
    exact (fr_j_X11_lamp_61 U hU v0 v1 v2 v3 v4 v5 v6 s0 v5 I J hv0 _ hf).tr hF
theorem fr_X11_lamp (U : Nat → Prop) {R : zR} (hU : ∀ o j, U o → U (R o j)) (v0 : Nat) (v1 : Int32) (v2 : Int32) (v3 : Int32) (v4 : Int32) (v5 : Int32) (v6 : Int32) (I : zI) (J : zJ) (hv0 : U v0) (o : zI) (hf : f_X11_lamp v0 v1 v2 v3 v4 v5 v6 I R = some o) : zw_FR U (o) (I) (J) (J) := by
  have hF : zw_FR U I I J J := zw_FR.rf
  unfold f_X11_lamp at hf
  obtain ⟨g1, hf⟩ := zw_gcE hf (by decide)
  obtain ⟨I2, eI2, hf⟩ := zw_letE hf
  have hF := hF.wI eI2 hv0
  rcases zw_ifE hf with ⟨c3, hf⟩ | ⟨c3, hf⟩
  ·
    rcases zw_ifE hf with ⟨c4, hf⟩ | ⟨c4, hf⟩
    ·
      exact (fr_j_X11_lamp_31 U hU v0 v1 v2 v3 v4 v5 v6 1 I2 J hv0 _ hf).tr hF
    ·
      exact (fr_j_X11_lamp_31 U hU v0 v1 v2 v3 v4 v5 v6 3 I2 J hv0 _ hf).tr hF
  ·
    exact (fr_j_X11_lamp_31 U hU v0 v1 v2 v3 v4 v5 v6 2 I2 J hv0 _ hf).tr hF
def zp_X11_named_20 (I : zI) (J : zJ) (o : (Int32 × zI) ⊕ (zI)) : zI × zJ := match o with | .inl t => (t.2, J) | .inr r => (r, J)
theorem fr_j_X11_named_63_20 (U : Nat → Prop) {R : zR} (hU : ∀ o j, U o → U (R o j)) (v0 : Nat) (v1 : Int32) (v2 : Int32) (I : zI) (J : zJ)  (o : (Int32 × zI) ⊕ (zI)) (hf : j_X11_named_63_20 v0 v1 v2 I R J = some o) : zw_FR U (zp_X11_named_20 I J o).1 (I) (zp_X11_named_20 I J o).2 (J) := by
  have hF : zw_FR U I I J J := zw_FR.rf
  unfold j_X11_named_63_20 at hf
  obtain ⟨x14, ex14, hf⟩ := zw_letE hf
  cases hf
  exact hF
theorem fr_s_X11_named_20 (U : Nat → Prop) {R : zR} (hU : ∀ o j, U o → U (R o j)) (v0 : Nat) (v1 : Int32) (J : zJ) (hv0 : U v0) (s : Int32 × zI) (o : (Int32 × zI) ⊕ (zI)) (hf : s_X11_named_20 v0 v1 R J s = some o) : zw_FR U (zp_X11_named_20 s.2 J o).1 (s.2) (zp_X11_named_20 s.2 J o).2 (J) := by
  have hF : zw_FR U (s.2) (s.2) (J) (J) := zw_FR.rf
  unfold s_X11_named_20 at hf
  obtain ⟨g5, hf⟩ := zw_gcE hf (by decide)
  obtain ⟨g6, hf⟩ := zw_gcE hf (by decide)
  obtain ⟨i7, hf⟩ := zw_inE hf
  rcases zw_ifE hf with ⟨c8, hf⟩ | ⟨c8, hf⟩
  ·
    cases hf
    exact hF
  ·
    obtain ⟨g9, hf⟩ := zw_gcE hf (by decide)
    obtain ⟨i10, hf⟩ := zw_inE hf
    obtain ⟨g11, hf⟩ := zw_gcE hf (by decide)
    obtain ⟨i12, hf⟩ := zw_inE hf
    rcases zw_ifE hf with ⟨c13, hf⟩ | ⟨c13, hf⟩
    ·
      exact (fr_j_X11_named_63_20 U hU v0 v1 s.1 s.2 J  _ hf).tr hF
    ·
      obtain ⟨q15, hq15, hf⟩ := zw_bdE hf
      have hF := (fr_X11_wrong U hU v0 3 v1 s.2 J hv0 _ hq15).tr hF
      exact (fr_j_X11_named_63_20 U hU v0 v1 s.1 q15 J  _ hf).tr hF
theorem fr_s_X11_named_20_lp (U : Nat → Prop) {R : zR} (hU : ∀ o j, U o → U (R o j)) (v0 : Nat) (v1 : Int32) (J : zJ) (hv0 : U v0) (n : Nat) (s : Int32 × zI) (r : zI) (h : zw_it (s_X11_named_20 v0 v1 R J) n s = some r) : zw_FR U (zp_X11_named_20 (s.2) (J) (.inr r)).1 (s.2) (zp_X11_named_20 (s.2) (J) (.inr r)).2 (J) :=
  zw_itF (A := fun t t0 : Int32 × zI => zw_FR U (t.2) (t0.2) (J) (J)) (Q := fun (r : zI) (t : Int32 × zI) => zw_FR U (zp_X11_named_20 (t.2) (J) (.inr r)).1 (t.2) (zp_X11_named_20 (t.2) (J) (.inr r)).2 (J)) (fun s o h1 => by
    have h2 := fr_s_X11_named_20 U hU v0 v1 J hv0 s o h1
    cases o with
    | inl t => exact h2
    | inr r => exact h2) (fun h1 h2 => zw_FR.tr h2 h1) n s r h
theorem fr_X11_named (U : Nat → Prop) {R : zR} (hU : ∀ o j, U o → U (R o j)) (v0 : Nat) (I : zI) (J : zJ) (hv0 : U v0) (o : zI × zJ) (hf : f_X11_named v0 I R J = some o) : zw_FR U (o.1) (I) (o.2) (J) := by
  have hF : zw_FR U I I J J := zw_FR.rf
  unfold f_X11_named at hf
  obtain ⟨g1, hf⟩ := zw_gcE hf (by decide)
  obtain ⟨x2, ex2, hf⟩ := zw_letE hf
  obtain ⟨q3, hq3, hf⟩ := zw_bdE hf
  have hF := (fr_X11_must U hU v0 1 I J hv0 _ hq3).tr hF
  rcases zw_ifE hf with ⟨c4, hf⟩ | ⟨c4, hf⟩
  ·
    obtain ⟨q16, hq16, hf⟩ := zw_bdE hf
    have hF := (fr_s_X11_named_20_lp U hU v0 x2 J hv0 _ _ _ hq16).tr hF
    obtain ⟨g17, hf⟩ := zw_gcE hf (by decide)
    obtain ⟨g18, hf⟩ := zw_gcE hf (by decide)
    obtain ⟨i19, hf⟩ := zw_inE hf
    obtain ⟨g20, hf⟩ := zw_gcE hf (by decide)
    obtain ⟨i21, hf⟩ := zw_inE hf
    obtain ⟨i22, hf⟩ := zw_inE hf
    obtain ⟨J23, eJ23, hf⟩ := zw_letE hf
    have hF := hF.wJ eJ23 (hU _ _ hv0)
    obtain ⟨i24, hf⟩ := zw_inE hf
    obtain ⟨i25, hf⟩ := zw_inE hf
    obtain ⟨I26, eI26, hf⟩ := zw_letE hf
    have hF := hF.wI eI26 (hU _ _ hv0)
    cases hf
    exact hF
  ·
    cases hf
    exact hF
theorem fr_j_X11_number_26 (U : Nat → Prop) {R : zR} (hU : ∀ o j, U o → U (R o j)) (v0 : Nat) (v1 : Int32) (v2 : Int32) (s0 : Int32) (I : zI) (J : zJ) (hv0 : U v0) (o : Int32 × zI) (hf : j_X11_number_26 v0 v1 v2 s0 I R = some o) : zw_FR U (o.2) (I) (J) (J) := by
  have hF : zw_FR U I I J J := zw_FR.rf
  unfold j_X11_number_26 at hf
  obtain ⟨g5, hf⟩ := zw_gcE hf (by decide)
  obtain ⟨q6, hq6, hf⟩ := zw_bdE hf
  have hF := (fr_X11_must U hU v0 2 I J hv0 _ hq6).tr hF
  rcases zw_ifE hf with ⟨c7, hf⟩ | ⟨c7, hf⟩
  ·
    cases hf
    exact hF
  ·
    rcases zw_ifE hf with ⟨c8, hf⟩ | ⟨c8, hf⟩
    ·
      cases hf
      exact hF
    ·
      obtain ⟨q9, hq9, hf⟩ := zw_bdE hf
      have hF := (fr_X11_wrong U hU v0 5 v2 q6 J hv0 _ hq9).tr hF
      cases hf
      exact hF
theorem fr_X11_number (U : Nat → Prop) {R : zR} (hU : ∀ o j, U o → U (R o j)) (v0 : Nat) (v1 : Int32) (I : zI) (J : zJ) (hv0 : U v0) (o : Int32 × zI) (hf : f_X11_number v0 v1 I R = some o) : zw_FR U (o.2) (I) (J) (J) := by
  have hF : zw_FR U I I J J := zw_FR.rf
  unfold f_X11_number at hf
  obtain ⟨g1, hf⟩ := zw_gcE hf (by decide)
  obtain ⟨x2, ex2, hf⟩ := zw_letE hf
  obtain ⟨q3, hq3, hf⟩ := zw_bdE hf
  rcases zw_ifE hf with ⟨c4, hf⟩ | ⟨c4, hf⟩
  ·
    exact (fr_j_X11_number_26 U hU v0 v1 x2 0 I J hv0 _ hf).tr hF
  ·
    obtain ⟨g10, hf⟩ := zw_gcE hf (by decide)
    obtain ⟨i11, hf⟩ := zw_inE hf
    exact (fr_j_X11_number_26 U hU v0 v1 x2 (I (R v0 7) (Int32.toNatClampNeg (I v0 11))) I J hv0 _ hf).tr hF
def zp_X11_priceNow_2 (I : zI) (J : zJ) (o : (Int32 × zI) ⊕ ((zI) ⊕ (Int32 × zI))) : zI × zJ := match o with | .inl t => (t.2, J) | .inr r => (match r with | .inl r0 => (r0, J) | .inr t0 => (t0.2, J))
theorem fr_s_X11_priceNow_2 (U : Nat → Prop) {R : zR} (hU : ∀ o j, U o → U (R o j)) (v0 : Nat) (J : zJ) (hv0 : U v0) (s : Int32 × zI) (o : (Int32 × zI) ⊕ ((zI) ⊕ (Int32 × zI))) (hf : s_X11_priceNow_2 v0 R s = some o) : zw_FR U (zp_X11_priceNow_2 s.2 J o).1 (s.2) (zp_X11_priceNow_2 s.2 J o).2 (J) := by
  have hF : zw_FR U (s.2) (s.2) (J) (J) := zw_FR.rf
  unfold s_X11_priceNow_2 at hf
  obtain ⟨g1, hf⟩ := zw_gcE hf (by decide)
  obtain ⟨g2, hf⟩ := zw_gcE hf (by decide)
  obtain ⟨i3, hf⟩ := zw_inE hf
  rcases zw_ifE hf with ⟨c4, hf⟩ | ⟨c4, hf⟩
  ·
    cases hf
    exact hF
  ·
    obtain ⟨x5, ex5, hf⟩ := zw_letE hf
    obtain ⟨q6, hq6, hf⟩ := zw_bdE hf
    have hF := (fr_X11_holds U hU v0 x5 s.2 J hv0 _ hq6).tr hF
    rcases zw_ifE hf with ⟨c7, hf⟩ | ⟨c7, hf⟩
    ·
      cases hf
      exact hF
    ·
      obtain ⟨x8, ex8, hf⟩ := zw_letE hf
      cases hf
      exact hF
theorem fr_s_X11_priceNow_2_lp (U : Nat → Prop) {R : zR} (hU : ∀ o j, U o → U (R o j)) (v0 : Nat) (J : zJ) (hv0 : U v0) (n : Nat) (s : Int32 × zI) (r : (zI) ⊕ (Int32 × zI)) (h : zw_it (s_X11_priceNow_2 v0 R) n s = some r) : zw_FR U (zp_X11_priceNow_2 (s.2) (J) (.inr r)).1 (s.2) (zp_X11_priceNow_2 (s.2) (J) (.inr r)).2 (J) :=
  zw_itF (A := fun t t0 : Int32 × zI => zw_FR U (t.2) (t0.2) (J) (J)) (Q := fun (r : (zI) ⊕ (Int32 × zI)) (t : Int32 × zI) => zw_FR U (zp_X11_priceNow_2 (t.2) (J) (.inr r)).1 (t.2) (zp_X11_priceNow_2 (t.2) (J) (.inr r)).2 (J)) (fun s o h1 => by
    have h2 := fr_s_X11_priceNow_2 U hU v0 J hv0 s o h1
    cases o with
    | inl t => exact h2
    | inr r => exact h2) (fun h1 h2 => zw_FR.tr h2 h1) n s r h
theorem fr_X11_priceNow (U : Nat → Prop) {R : zR} (hU : ∀ o j, U o → U (R o j)) (v0 : Nat) (I : zI) (J : zJ) (hv0 : U v0) (o : Int32 × zI) (hf : f_X11_priceNow v0 I R = some o) : zw_FR U (o.2) (I) (J) (J) := by
  have hF : zw_FR U I I J J := zw_FR.rf
  unfold f_X11_priceNow at hf
  obtain ⟨q9, hq9, hf⟩ := zw_bdE hf
  have hF := (fr_s_X11_priceNow_2_lp U hU v0 J hv0 _ _ _ hq9).tr hF
  rcases q9 with a10 | a11
  ·
    cases hf
    exact hF
  ·
    obtain ⟨g12, hf⟩ := zw_gcE hf (by decide)
    obtain ⟨g13, hf⟩ := zw_gcE hf (by decide)
    obtain ⟨i14, hf⟩ := zw_inE hf
    obtain ⟨g15, hf⟩ := zw_gcE hf (by decide)
    obtain ⟨i16, hf⟩ := zw_inE hf
    obtain ⟨q17, hq17, hf⟩ := zw_bdE hf
    have hF := (fr_X11_termOf U hU v0 (a11.2 (R v0 33) (Int32.toNatClampNeg a11.1)) (a11.2 (R v0 34) (Int32.toNatClampNeg a11.1)) a11.2 J hv0 _ hq17).tr hF
    rcases zw_ifE hf with ⟨c18, hf⟩ | ⟨c18, hf⟩
    ·
      rcases zw_ifE hf with ⟨c19, hf⟩ | ⟨c19, hf⟩
      ·
        cases hf
        exact hF
      ·
        cases hf
        exact hF
    ·
      cases hf
      exact hF
theorem fr_j_X4_holds_28 (U : Nat → Prop) {R : zR} (hU : ∀ o j, U o → U (R o j))  (I : zI) (J : zJ)  (o : Int32 × zI) (hf : j_X4_holds_28 I R = some o) : zw_FR U (o.2) (I) (J) (J) := by
  have hF : zw_FR U I I J J := zw_FR.rf
  unfold j_X4_holds_28 at hf
  cases hf
  exact hF
theorem fr_X4_holds (U : Nat → Prop) {R : zR} (hU : ∀ o j, U o → U (R o j)) (v0 : Nat) (v1 : Nat) (v2 : Nat) (v3 : Nat) (I : zI) (J : zJ) (hv0 : U v0) (o : Int32 × zI) (hf : f_X4_holds v0 v1 v2 v3 I R = some o) : zw_FR U (o.2) (I) (J) (J) := by
  have hF : zw_FR U I I J J := zw_FR.rf
  unfold f_X4_holds at hf
  obtain ⟨g1, hf⟩ := zw_gcE hf (by decide)
  rcases zw_ifE hf with ⟨c2, hf⟩ | ⟨c2, hf⟩
  ·
    exact (fr_j_X4_holds_28 U hU  I J  _ hf).tr hF
  ·
    obtain ⟨g3, hf⟩ := zw_gcE hf (by decide)
    obtain ⟨q4, hq4, hf⟩ := zw_bdE hf
    have hF := (fr_X4_reckon U hU v0 v1 (I v2 1) (I v2 2) v3 I J hv0 _ hq4).tr hF
    rcases zw_ifE hf with ⟨c5, hf⟩ | ⟨c5, hf⟩
    ·
      cases hf
      exact hF
    ·
      exact (fr_j_X4_holds_28 U hU  q4.2 J  _ hf).tr hF
theorem fr_X4_worth (U : Nat → Prop) {R : zR} (hU : ∀ o j, U o → U (R o j)) (v0 : Nat) (v1 : Nat) (v2 : Nat) (v3 : Nat) (I : zI) (J : zJ) (hv0 : U v0) (o : Int32 × zI) (hf : f_X4_worth v0 v1 v2 v3 I R = some o) : zw_FR U (o.2) (I) (J) (J) := by
  have hF : zw_FR U I I J J := zw_FR.rf
  unfold f_X4_worth at hf
  obtain ⟨g1, hf⟩ := zw_gcE hf (by decide)
  obtain ⟨g2, hf⟩ := zw_gcE hf (by decide)
  obtain ⟨q3, hq3, hf⟩ := zw_bdE hf
  have hF := (fr_X4_reckon U hU v0 v1 (I v2 0) (I v2 1) v3 I J hv0 _ hq3).tr hF
  rcases zw_ifE hf with ⟨c4, hf⟩ | ⟨c4, hf⟩
  ·
    cases hf
    exact hF
  ·
    cases hf
    exact hF
def zp_X6_lightUp_49 (I : zI) (J : zJ) (o : (Int32 × Int32 × zI) ⊕ (Int32 × zI)) : zI × zJ := match o with | .inl t => (t.2.2, J) | .inr r => (r.2, J)
theorem fr_j_X6_lightUp_100_49 (U : Nat → Prop) {R : zR} (hU : ∀ o j, U o → U (R o j)) (v0 : Nat) (v1 : Nat) (v4 : Int32) (v5 : Int32) (I : zI) (J : zJ)  (o : (Int32 × Int32 × zI) ⊕ (Int32 × zI)) (hf : j_X6_lightUp_100_49 v0 v1 v4 v5 I R = some o) : zw_FR U (zp_X6_lightUp_49 I J o).1 (I) (zp_X6_lightUp_49 I J o).2 (J) := by
  have hF : zw_FR U I I J J := zw_FR.rf
  unfold j_X6_lightUp_100_49 at hf
  obtain ⟨x17, ex17, hf⟩ := zw_letE hf
  cases hf
  exact hF
theorem fr_j_X6_lightUp_76_49 (U : Nat → Prop) {R : zR} (hU : ∀ o j, U o → U (R o j)) (v0 : Nat) (v1 : Nat) (v4 : Int32) (v5 : Int32) (I : zI) (J : zJ) (hv0 : U v0) (o : (Int32 × Int32 × zI) ⊕ (Int32 × zI)) (hf : j_X6_lightUp_76_49 v0 v1 v4 v5 I R = some o) : zw_FR U (zp_X6_lightUp_49 I J o).1 (I) (zp_X6_lightUp_49 I J o).2 (J) := by
  have hF : zw_FR U I I J J := zw_FR.rf
  unfold j_X6_lightUp_76_49 at hf
  obtain ⟨g13, hf⟩ := zw_gcE hf (by decide)
  obtain ⟨g14, hf⟩ := zw_gcE hf (by decide)
  obtain ⟨q15, hq15, hf⟩ := zw_bdE hf
  have hF := (fr_X2_follow U hU (R v0 1) v1 0 v5 (I v0 5) I J (hU _ _ hv0) _ hq15).tr hF
  obtain ⟨x16, ex16, hf⟩ := zw_letE hf
  exact (fr_j_X6_lightUp_100_49 U hU v0 v1 x16 v5 q15 J  _ hf).tr hF
theorem fr_s_X6_lightUp_49 (U : Nat → Prop) {R : zR} (hU : ∀ o j, U o → U (R o j)) (v0 : Nat) (v1 : Nat) (J : zJ) (hv0 : U v0) (s : Int32 × Int32 × zI) (o : (Int32 × Int32 × zI) ⊕ (Int32 × zI)) (hf : s_X6_lightUp_49 v0 v1 R s = some o) : zw_FR U (zp_X6_lightUp_49 s.2.2 J o).1 (s.2.2) (zp_X6_lightUp_49 s.2.2 J o).2 (J) := by
  have hF : zw_FR U (s.2.2) (s.2.2) (J) (J) := zw_FR.rf
  unfold s_X6_lightUp_49 at hf
  obtain ⟨g9, hf⟩ := zw_gcE hf (by decide)
  rcases zw_ifE hf with ⟨c10, hf⟩ | ⟨c10, hf⟩
  ·
    cases hf
    exact hF
  ·
    obtain ⟨g11, hf⟩ := zw_gcE hf (by decide)
    rcases zw_ifE hf with ⟨c12, hf⟩ | ⟨c12, hf⟩
    ·
      exact (fr_j_X6_lightUp_76_49 U hU v0 v1 s.1 s.2.1 s.2.2 J hv0 _ hf).tr hF
    ·
      rcases zw_ifE hf with ⟨c18, hf⟩ | ⟨c18, hf⟩
      ·
        exact (fr_j_X6_lightUp_100_49 U hU v0 v1 s.1 s.2.1 s.2.2 J  _ hf).tr hF
      ·
        exact (fr_j_X6_lightUp_76_49 U hU v0 v1 s.1 s.2.1 s.2.2 J hv0 _ hf).tr hF
theorem fr_s_X6_lightUp_49_lp (U : Nat → Prop) {R : zR} (hU : ∀ o j, U o → U (R o j)) (v0 : Nat) (v1 : Nat) (J : zJ) (hv0 : U v0) (n : Nat) (s : Int32 × Int32 × zI) (r : Int32 × zI) (h : zw_it (s_X6_lightUp_49 v0 v1 R) n s = some r) : zw_FR U (zp_X6_lightUp_49 (s.2.2) (J) (.inr r)).1 (s.2.2) (zp_X6_lightUp_49 (s.2.2) (J) (.inr r)).2 (J) :=
  zw_itF (A := fun t t0 : Int32 × Int32 × zI => zw_FR U (t.2.2) (t0.2.2) (J) (J)) (Q := fun (r : Int32 × zI) (t : Int32 × Int32 × zI) => zw_FR U (zp_X6_lightUp_49 (t.2.2) (J) (.inr r)).1 (t.2.2) (zp_X6_lightUp_49 (t.2.2) (J) (.inr r)).2 (J)) (fun s o h1 => by
    have h2 := fr_s_X6_lightUp_49 U hU v0 v1 J hv0 s o h1
    cases o with
    | inl t => exact h2
    | inr r => exact h2) (fun h1 h2 => zw_FR.tr h2 h1) n s r h
def zp_X6_lightUp_109 (I : zI) (J : zJ) (o : (Int32 × zI) ⊕ (zI)) : zI × zJ := match o with | .inl t => (t.2, J) | .inr r => (r, J)
theorem fr_s_X6_lightUp_109 (U : Nat → Prop) {R : zR} (hU : ∀ o j, U o → U (R o j)) (v0 : Nat) (v1 : Nat) (v4 : Int32) (J : zJ) (hv0 : U v0) (s : Int32 × zI) (o : (Int32 × zI) ⊕ (zI)) (hf : s_X6_lightUp_109 v0 v1 v4 R s = some o) : zw_FR U (zp_X6_lightUp_109 s.2 J o).1 (s.2) (zp_X6_lightUp_109 s.2 J o).2 (J) := by
  have hF : zw_FR U (s.2) (s.2) (J) (J) := zw_FR.rf
  unfold s_X6_lightUp_109 at hf
  obtain ⟨g20, hf⟩ := zw_gcE hf (by decide)
  rcases zw_ifE hf with ⟨c21, hf⟩ | ⟨c21, hf⟩
  ·
    cases hf
    exact hF
  ·
    obtain ⟨g22, hf⟩ := zw_gcE hf (by decide)
    obtain ⟨g23, hf⟩ := zw_gcE hf (by decide)
    obtain ⟨q24, hq24, hf⟩ := zw_bdE hf
    have hF := (fr_X2_follow U hU (R v0 1) v1 3 s.1 (s.2 v0 6) s.2 J (hU _ _ hv0) _ hq24).tr hF
    obtain ⟨q25, hq25, hf⟩ := zw_bdE hf
    have hF := (fr_X2_follow U hU (R v0 1) v1 1 s.1 (q24 v0 7) q24 J (hU _ _ hv0) _ hq25).tr hF
    obtain ⟨x26, ex26, hf⟩ := zw_letE hf
    cases hf
    exact hF
theorem fr_s_X6_lightUp_109_lp (U : Nat → Prop) {R : zR} (hU : ∀ o j, U o → U (R o j)) (v0 : Nat) (v1 : Nat) (v4 : Int32) (J : zJ) (hv0 : U v0) (n : Nat) (s : Int32 × zI) (r : zI) (h : zw_it (s_X6_lightUp_109 v0 v1 v4 R) n s = some r) : zw_FR U (zp_X6_lightUp_109 (s.2) (J) (.inr r)).1 (s.2) (zp_X6_lightUp_109 (s.2) (J) (.inr r)).2 (J) :=
  zw_itF (A := fun t t0 : Int32 × zI => zw_FR U (t.2) (t0.2) (J) (J)) (Q := fun (r : zI) (t : Int32 × zI) => zw_FR U (zp_X6_lightUp_109 (t.2) (J) (.inr r)).1 (t.2) (zp_X6_lightUp_109 (t.2) (J) (.inr r)).2 (J)) (fun s o h1 => by
    have h2 := fr_s_X6_lightUp_109 U hU v0 v1 v4 J hv0 s o h1
    cases o with
    | inl t => exact h2
    | inr r => exact h2) (fun h1 h2 => zw_FR.tr h2 h1) n s r h
theorem fr_X6_lightUp (U : Nat → Prop) {R : zR} (hU : ∀ o j, U o → U (R o j)) (v0 : Nat) (v1 : Nat) (v2 : Nat) (v3 : Int32) (I : zI) (J : zJ) (hv0 : U v0) (o : zI) (hf : f_X6_lightUp v0 v1 v2 v3 I R = some o) : zw_FR U (o) (I) (J) (J) := by
  have hF : zw_FR U I I J J := zw_FR.rf
  unfold f_X6_lightUp at hf
  obtain ⟨g1, hf⟩ := zw_gcE hf (by decide)
  obtain ⟨g2, hf⟩ := zw_gcE hf (by decide)
  obtain ⟨I3, eI3, hf⟩ := zw_letE hf
  have hF := hF.wI eI3 hv0
  obtain ⟨I4, eI4, hf⟩ := zw_letE hf
  have hF := hF.wI eI4 hv0
  obtain ⟨I5, eI5, hf⟩ := zw_letE hf
  have hF := hF.wI eI5 hv0
  obtain ⟨g6, hf⟩ := zw_gcE hf (by decide)
  obtain ⟨q7, hq7, hf⟩ := zw_bdE hf
  have hF := (fr_X2_begin U hU (R v0 1) v2 v3 I5 J (hU _ _ hv0) _ hq7).tr hF
  obtain ⟨x8, ex8, hf⟩ := zw_letE hf
  obtain ⟨q19, hq19, hf⟩ := zw_bdE hf
  have hF := (fr_s_X6_lightUp_49_lp U hU v0 v1 J hv0 _ _ _ hq19).tr hF
  obtain ⟨q27, hq27, hf⟩ := zw_bdE hf
  have hF := (fr_s_X6_lightUp_109_lp U hU v0 v1 q19.1 J hv0 _ _ _ hq27).tr hF
  obtain ⟨g28, hf⟩ := zw_gcE hf (by decide)
  obtain ⟨i29, hf⟩ := zw_inE hf
  obtain ⟨I30, eI30, hf⟩ := zw_letE hf
  have hF := hF.wI eI30 (hU _ _ hv0)
  obtain ⟨q31, hq31, hf⟩ := zw_bdE hf
  have hF := (fr_X6_sumUp U hU v0 v1 I30 J hv0 _ hq31).tr hF
  cases hf
  exact hF
theorem fr_j_X10_brightOf_64 (U : Nat → Prop) {R : zR} (hU : ∀ o j, U o → U (R o j)) (v0 : Nat) (v4 : Int32) (I : zI) (J : zJ)  (o : Int32 × zI) (hf : j_X10_brightOf_64 v0 v4 I R = some o) : zw_FR U (o.2) (I) (J) (J) := by
  have hF : zw_FR U I I J J := zw_FR.rf
  unfold j_X10_brightOf_64 at hf
  obtain ⟨g6, hf⟩ := zw_gcE hf (by decide)
  obtain ⟨g7, hf⟩ := zw_gcE hf (by decide)
  obtain ⟨i8, hf⟩ := zw_inE hf
  cases hf
  exact hF
theorem fr_X10_brightOf (U : Nat → Prop) {R : zR} (hU : ∀ o j, U o → U (R o j)) (v0 : Nat) (v1 : Int32) (v2 : Int32) (v3 : Int32) (I : zI) (J : zJ) (hv0 : U v0) (o : Int32 × zI) (hf : f_X10_brightOf v0 v1 v2 v3 I R = some o) : zw_FR U (o.2) (I) (J) (J) := by
  have hF : zw_FR U I I J J := zw_FR.rf
  unfold f_X10_brightOf at hf
  obtain ⟨x1, ex1, hf⟩ := zw_letE hf
  obtain ⟨g2, hf⟩ := zw_gcE hf (by decide)
  obtain ⟨g3, hf⟩ := zw_gcE hf (by decide)
  obtain ⟨i4, hf⟩ := zw_inE hf
  rcases zw_ifE hf with ⟨c5, hf⟩ | ⟨c5, hf⟩
  ·
    exact (fr_j_X10_brightOf_64 U hU v0 x1 I J  _ hf).tr hF
  ·
    obtain ⟨g9, hf⟩ := zw_gcE hf (by decide)
    obtain ⟨g10, hf⟩ := zw_gcE hf (by decide)
    obtain ⟨g11, hf⟩ := zw_gcE hf (by decide)
    obtain ⟨i12, hf⟩ := zw_inE hf
    obtain ⟨g13, hf⟩ := zw_gcE hf (by decide)
    obtain ⟨g14, hf⟩ := zw_gcE hf (by decide)
    obtain ⟨i15, hf⟩ := zw_inE hf
    obtain ⟨g16, hf⟩ := zw_gcE hf (by decide)
    obtain ⟨q17, hq17, hf⟩ := zw_bdE hf
    have hF := (fr_X6_lightUp U hU (R v0 7) (R (R (R v0 2) 2) (Int32.toNatClampNeg v1)) (R (R (R v0 2) 0) (Int32.toNatClampNeg v2)) v3 I J (hU _ _ hv0) _ hq17).tr hF
    obtain ⟨g18, hf⟩ := zw_gcE hf (by decide)
    obtain ⟨i19, hf⟩ := zw_inE hf
    obtain ⟨i20, hf⟩ := zw_inE hf
    obtain ⟨I21, eI21, hf⟩ := zw_letE hf
    have hF := hF.wI eI21 (hU _ _ hv0)
    exact (fr_j_X10_brightOf_64 U hU v0 x1 I21 J  _ hf).tr hF
