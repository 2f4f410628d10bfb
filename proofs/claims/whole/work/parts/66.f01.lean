theorem fr_X11_feed (U : Nat → Prop) {R : zR} (hU : ∀ o j, U o → U (R o j)) (v0 : Nat) (v1 : Int32) (v2 : Int32) (v3 : Int32) (v4 : Int32) (v5 : Int32) (I : zI) (J : zJ) (hv0 : U v0) (o : Int32 × zI) (hf : f_X11_feed v0 v1 v2 v3 v4 v5 I R = some o) : zw_FR U (o.2) (I) (J) (J) := by
  have hF : zw_FR U I I J J := zw_FR.rf
  unfold f_X11_feed at hf
  obtain ⟨g1, hf⟩ := zw_gcE hf (by decide)
  rcases zw_ifE hf with ⟨c2, hf⟩ | ⟨c2, hf⟩
  ·
    obtain ⟨q3, hq3, hf⟩ := zw_bdE hf
    have hF := (fr_X11_put U hU v0 v1 I J hv0 _ hq3).tr hF
    obtain ⟨q4, hq4, hf⟩ := zw_bdE hf
    have hF := (fr_X11_put U hU v0 v2 q3 J hv0 _ hq4).tr hF
    obtain ⟨q5, hq5, hf⟩ := zw_bdE hf
    have hF := (fr_X11_put U hU v0 v3 q4 J hv0 _ hq5).tr hF
    obtain ⟨q6, hq6, hf⟩ := zw_bdE hf
    have hF := (fr_X11_put U hU v0 v4 q5 J hv0 _ hq6).tr hF
    obtain ⟨q7, hq7, hf⟩ := zw_bdE hf
    have hF := (fr_X11_put U hU v0 v5 q6 J hv0 _ hq7).tr hF
    cases hf
    exact hF
  ·
    cases hf
    exact hF
theorem fr_X11_goesOn (U : Nat → Prop) {R : zR} (hU : ∀ o j, U o → U (R o j)) (v0 : Nat) (I : zI) (J : zJ) (hv0 : U v0) (o : zI) (hf : f_X11_goesOn v0 I R = some o) : zw_FR U (o) (I) (J) (J) := by
  have hF : zw_FR U I I J J := zw_FR.rf
  unfold f_X11_goesOn at hf
  obtain ⟨g1, hf⟩ := zw_gcE hf (by decide)
  rcases zw_ifE hf with ⟨c2, hf⟩ | ⟨c2, hf⟩
  ·
    obtain ⟨I3, eI3, hf⟩ := zw_letE hf
    have hF := hF.wI eI3 hv0
    cases hf
    exact hF
  ·
    obtain ⟨q4, hq4, hf⟩ := zw_bdE hf
    have hF := (fr_X11_fail U hU v0 2 I J hv0 _ hq4).tr hF
    cases hf
    exact hF
theorem fr_j_X11_isTrue_155 (U : Nat → Prop) {R : zR} (hU : ∀ o j, U o → U (R o j)) (v0 : Nat) (v1 : Int32) (s0 : Int32) (I : zI) (J : zJ)  (o : Int32 × zI) (hf : j_X11_isTrue_155 v0 v1 s0 I R = some o) : zw_FR U (o.2) (I) (J) (J) := by
  have hF : zw_FR U I I J J := zw_FR.rf
  unfold j_X11_isTrue_155 at hf
  obtain ⟨g23, hf⟩ := zw_gcE hf (by decide)
  obtain ⟨g24, hf⟩ := zw_gcE hf (by decide)
  obtain ⟨i25, hf⟩ := zw_inE hf
  rcases zw_ifE hf with ⟨c26, hf⟩ | ⟨c26, hf⟩
  ·
    cases hf
    exact hF
  ·
    cases hf
    exact hF
theorem fr_j_X11_isTrue_154 (U : Nat → Prop) {R : zR} (hU : ∀ o j, U o → U (R o j)) (v0 : Nat) (v1 : Int32) (I : zI) (J : zJ)  (o : Int32 × zI) (hf : j_X11_isTrue_154 v0 v1 I R = some o) : zw_FR U (o.2) (I) (J) (J) := by
  have hF : zw_FR U I I J J := zw_FR.rf
  unfold j_X11_isTrue_154 at hf
  exact (fr_j_X11_isTrue_155 U hU v0 v1 0 I J  _ hf).tr hF
theorem fr_j_X11_isTrue_139 (U : Nat → Prop) {R : zR} (hU : ∀ o j, U o → U (R o j)) (v0 : Nat) (v1 : Int32) (v3 : Int32) (s0 : Int32) (I : zI) (J : zJ)  (o : Int32 × zI) (hf : j_X11_isTrue_139 v0 v1 v3 s0 I R = some o) : zw_FR U (o.2) (I) (J) (J) := by
  have hF : zw_FR U I I J J := zw_FR.rf
  unfold j_X11_isTrue_139 at hf
  rcases zw_ifE hf with ⟨c22, hf⟩ | ⟨c22, hf⟩
  ·
    exact (fr_j_X11_isTrue_154 U hU v0 v1 I J  _ hf).tr hF
  ·
    rcases zw_ifE hf with ⟨c27, hf⟩ | ⟨c27, hf⟩
    ·
      exact (fr_j_X11_isTrue_154 U hU v0 v1 I J  _ hf).tr hF
    ·
      exact (fr_j_X11_isTrue_155 U hU v0 v1 1 I J  _ hf).tr hF
theorem fr_j_X11_isTrue_56 (U : Nat → Prop) {R : zR} (hU : ∀ o j, U o → U (R o j)) (v0 : Nat) (v1 : Int32) (v2 : Int32) (v4 : Int32) (s0 : Int32) (I : zI) (J : zJ)  (o : Int32 × zI) (hf : j_X11_isTrue_56 v0 v1 v2 v4 s0 I R = some o) : zw_FR U (o.2) (I) (J) (J) := by
  have hF : zw_FR U I I J J := zw_FR.rf
  unfold j_X11_isTrue_56 at hf
  obtain ⟨g13, hf⟩ := zw_gcE hf (by decide)
  obtain ⟨g14, hf⟩ := zw_gcE hf (by decide)
  obtain ⟨i15, hf⟩ := zw_inE hf
  rcases zw_ifE hf with ⟨c16, hf⟩ | ⟨c16, hf⟩
  ·
    obtain ⟨i17, hf⟩ := zw_inE hf
    rcases zw_ifE hf with ⟨c18, hf⟩ | ⟨c18, hf⟩
    ·
      obtain ⟨i19, hf⟩ := zw_inE hf
      rcases zw_ifE hf with ⟨c20, hf⟩ | ⟨c20, hf⟩
      ·
        rcases zw_ifE hf with ⟨c21, hf⟩ | ⟨c21, hf⟩
        ·
          exact (fr_j_X11_isTrue_139 U hU v0 v1 s0 0 I J  _ hf).tr hF
        ·
          exact (fr_j_X11_isTrue_139 U hU v0 v1 s0 1 I J  _ hf).tr hF
      ·
        rcases zw_ifE hf with ⟨c28, hf⟩ | ⟨c28, hf⟩
        ·
          exact (fr_j_X11_isTrue_139 U hU v0 v1 s0 0 I J  _ hf).tr hF
        ·
          exact (fr_j_X11_isTrue_139 U hU v0 v1 s0 1 I J  _ hf).tr hF
    ·
      rcases zw_ifE hf with ⟨c29, hf⟩ | ⟨c29, hf⟩
      ·
        exact (fr_j_X11_isTrue_139 U hU v0 v1 s0 0 I J  _ hf).tr hF
      ·
        exact (fr_j_X11_isTrue_139 U hU v0 v1 s0 1 I J  _ hf).tr hF
  ·
    rcases zw_ifE hf with ⟨c30, hf⟩ | ⟨c30, hf⟩
    ·
      exact (fr_j_X11_isTrue_139 U hU v0 v1 s0 0 I J  _ hf).tr hF
    ·
      exact (fr_j_X11_isTrue_139 U hU v0 v1 s0 1 I J  _ hf).tr hF
theorem fr_j_X11_isTrue_51 (U : Nat → Prop) {R : zR} (hU : ∀ o j, U o → U (R o j)) (v0 : Nat) (v1 : Int32) (v2 : Int32) (v4 : Int32) (I : zI) (J : zJ)  (o : Int32 × zI) (hf : j_X11_isTrue_51 v0 v1 v2 v4 I R = some o) : zw_FR U (o.2) (I) (J) (J) := by
  have hF : zw_FR U I I J J := zw_FR.rf
  unfold j_X11_isTrue_51 at hf
  exact (fr_j_X11_isTrue_56 U hU v0 v1 v2 v4 1 I J  _ hf).tr hF
theorem fr_X11_isTrue (U : Nat → Prop) {R : zR} (hU : ∀ o j, U o → U (R o j)) (v0 : Nat) (v1 : Int32) (I : zI) (J : zJ) (hv0 : U v0) (o : Int32 × zI) (hf : f_X11_isTrue v0 v1 I R = some o) : zw_FR U (o.2) (I) (J) (J) := by
  have hF : zw_FR U I I J J := zw_FR.rf
  unfold f_X11_isTrue at hf
  obtain ⟨g1, hf⟩ := zw_gcE hf (by decide)
  obtain ⟨g2, hf⟩ := zw_gcE hf (by decide)
  obtain ⟨i3, hf⟩ := zw_inE hf
  obtain ⟨g4, hf⟩ := zw_gcE hf (by decide)
  obtain ⟨i5, hf⟩ := zw_inE hf
  obtain ⟨q6, hq6, hf⟩ := zw_bdE hf
  have hF := (fr_X11_termOf U hU v0 (I (R v0 41) (Int32.toNatClampNeg v1)) (I (R v0 42) (Int32.toNatClampNeg v1)) I J hv0 _ hq6).tr hF
  obtain ⟨x7, ex7, hf⟩ := zw_letE hf
  obtain ⟨i8, hf⟩ := zw_inE hf
  obtain ⟨g9, hf⟩ := zw_gcE hf (by decide)
  obtain ⟨i10, hf⟩ := zw_inE hf
  obtain ⟨q11, hq11, hf⟩ := zw_bdE hf
  have hF := (fr_X11_termOf U hU v0 (q6.2 (R v0 42) (Int32.toNatClampNeg v1)) (q6.2 (R v0 43) (Int32.toNatClampNeg v1)) q6.2 J hv0 _ hq11).tr hF
  rcases zw_ifE hf with ⟨c12, hf⟩ | ⟨c12, hf⟩
  ·
    exact (fr_j_X11_isTrue_51 U hU v0 v1 q6.1 q11.1 q11.2 J  _ hf).tr hF
  ·
    rcases zw_ifE hf with ⟨c31, hf⟩ | ⟨c31, hf⟩
    ·
      exact (fr_j_X11_isTrue_56 U hU v0 v1 q6.1 q11.1 0 q11.2 J  _ hf).tr hF
    ·
      exact (fr_j_X11_isTrue_51 U hU v0 v1 q6.1 q11.1 q11.2 J  _ hf).tr hF
theorem fr_j_X11_sign_186 (U : Nat → Prop) {R : zR} (hU : ∀ o j, U o → U (R o j)) (v0 : Nat) (v1 : Int32) (v4 : Int32) (v5 : Int32) (I : zI) (J : zJ) (hv0 : U v0) (o : Int32 × zI × zJ) (hf : j_X11_sign_186 v0 v1 v4 v5 I R J = some o) : zw_FR U (o.2.1) (I) (o.2.2) (J) := by
  have hF : zw_FR U I I J J := zw_FR.rf
  unfold j_X11_sign_186 at hf
  obtain ⟨g16, hf⟩ := zw_gcE hf (by decide)
  obtain ⟨q17, hq17, hf⟩ := zw_bdE hf
  have hF := (fr_X11_token U hU v0 v5 v1 0 0 I J hv0 _ hq17).tr hF
  rcases zw_ifE hf with ⟨c18, hf⟩ | ⟨c18, hf⟩
  ·
    cases hf
    exact hF
  ·
    cases hf
    exact hF
theorem fr_j_X11_sign_44 (U : Nat → Prop) {R : zR} (hU : ∀ o j, U o → U (R o j)) (v0 : Nat) (v1 : Int32) (v2 : Int32) (s0 : Int32) (I : zI) (J : zJ) (hv0 : U v0) (o : Int32 × zI × zJ) (hf : j_X11_sign_44 v0 v1 v2 s0 I R J = some o) : zw_FR U (o.2.1) (I) (o.2.2) (J) := by
  have hF : zw_FR U I I J J := zw_FR.rf
  unfold j_X11_sign_44 at hf
  rcases zw_ifE hf with ⟨c5, hf⟩ | ⟨c5, hf⟩
  ·
    rcases zw_ifE hf with ⟨c6, hf⟩ | ⟨c6, hf⟩
    ·
      rcases zw_ifE hf with ⟨c7, hf⟩ | ⟨c7, hf⟩
      ·
        rcases zw_ifE hf with ⟨c8, hf⟩ | ⟨c8, hf⟩
        ·
          rcases zw_ifE hf with ⟨c9, hf⟩ | ⟨c9, hf⟩
          ·
            rcases zw_ifE hf with ⟨c10, hf⟩ | ⟨c10, hf⟩
            ·
              rcases zw_ifE hf with ⟨c11, hf⟩ | ⟨c11, hf⟩
              ·
                rcases zw_ifE hf with ⟨c12, hf⟩ | ⟨c12, hf⟩
                ·
                  rcases zw_ifE hf with ⟨c13, hf⟩ | ⟨c13, hf⟩
                  ·
                    rcases zw_ifE hf with ⟨c14, hf⟩ | ⟨c14, hf⟩
                    ·
                      rcases zw_ifE hf with ⟨c15, hf⟩ | ⟨c15, hf⟩
                      ·
                        exact (fr_j_X11_sign_186 U hU v0 v1 s0 3 I J hv0 _ hf).tr hF
                      ·
                        exact (fr_j_X11_sign_186 U hU v0 v1 s0 16 I J hv0 _ hf).tr hF
                    ·
                      exact (fr_j_X11_sign_186 U hU v0 v1 s0 5 I J hv0 _ hf).tr hF
                  ·
                    exact (fr_j_X11_sign_186 U hU v0 v1 s0 15 I J hv0 _ hf).tr hF
                ·
                  exact (fr_j_X11_sign_186 U hU v0 v1 s0 13 I J hv0 _ hf).tr hF
              ·
                exact (fr_j_X11_sign_186 U hU v0 v1 s0 10 I J hv0 _ hf).tr hF
            ·
              exact (fr_j_X11_sign_186 U hU v0 v1 s0 9 I J hv0 _ hf).tr hF
          ·
            exact (fr_j_X11_sign_186 U hU v0 v1 s0 8 I J hv0 _ hf).tr hF
        ·
          exact (fr_j_X11_sign_186 U hU v0 v1 s0 7 I J hv0 _ hf).tr hF
      ·
        exact (fr_j_X11_sign_186 U hU v0 v1 s0 6 I J hv0 _ hf).tr hF
    ·
      exact (fr_j_X11_sign_186 U hU v0 v1 s0 4 I J hv0 _ hf).tr hF
  ·
    exact (fr_j_X11_sign_186 U hU v0 v1 s0 s0 I J hv0 _ hf).tr hF
theorem fr_X11_sign (U : Nat → Prop) {R : zR} (hU : ∀ o j, U o → U (R o j)) (v0 : Nat) (v1 : Int32) (v2 : Int32) (v3 : Int32) (I : zI) (J : zJ) (hv0 : U v0) (o : Int32 × zI × zJ) (hf : f_X11_sign v0 v1 v2 v3 I R J = some o) : zw_FR U (o.2.1) (I) (o.2.2) (J) := by
  have hF : zw_FR U I I J J := zw_FR.rf
  unfold f_X11_sign at hf
  rcases zw_ifE hf with ⟨c1, hf⟩ | ⟨c1, hf⟩
  ·
    rcases zw_ifE hf with ⟨c2, hf⟩ | ⟨c2, hf⟩
    ·
      rcases zw_ifE hf with ⟨c3, hf⟩ | ⟨c3, hf⟩
      ·
        rcases zw_ifE hf with ⟨c4, hf⟩ | ⟨c4, hf⟩
        ·
          exact (fr_j_X11_sign_44 U hU v0 v1 v2 0 I J hv0 _ hf).tr hF
        ·
          exact (fr_j_X11_sign_44 U hU v0 v1 v2 14 I J hv0 _ hf).tr hF
      ·
        exact (fr_j_X11_sign_44 U hU v0 v1 v2 12 I J hv0 _ hf).tr hF
    ·
      exact (fr_j_X11_sign_44 U hU v0 v1 v2 11 I J hv0 _ hf).tr hF
  ·
    exact (fr_j_X11_sign_44 U hU v0 v1 v2 0 I J hv0 _ hf).tr hF
theorem fr_X1_addCut (U : Nat → Prop) {R : zR} (hU : ∀ o j, U o → U (R o j)) (v0 : Nat) (I : zI) (J : zJ) (hv0 : U v0) (o : Nat × zI) (hf : f_X1_addCut v0 I R = some o) : zw_FR U (o.2) (I) (J) (J) ∧ U (o.1) := by
  have hF : zw_FR U I I J J := zw_FR.rf
  unfold f_X1_addCut at hf
  obtain ⟨g1, hf⟩ := zw_gcE hf (by decide)
  obtain ⟨g2, hf⟩ := zw_gcE hf (by decide)
  obtain ⟨i3, hf⟩ := zw_inE hf
  obtain ⟨g4, hf⟩ := zw_gcE hf (by decide)
  obtain ⟨I5, eI5, hf⟩ := zw_letE hf
  have hF := hF.wI eI5 hv0
  obtain ⟨q6, hq6, hf⟩ := zw_bdE hf
  have hF := (fr_X0_empty U hU (R (R v0 2) (Int32.toNatClampNeg (I v0 3))) I5 J (hU _ _ (hU _ _ hv0)) _ hq6).tr hF
  cases hf
  exact ⟨hF, (hU _ _ (hU _ _ hv0))⟩
theorem fr_X1_addRough (U : Nat → Prop) {R : zR} (hU : ∀ o j, U o → U (R o j)) (v0 : Nat) (I : zI) (J : zJ) (hv0 : U v0) (o : Nat × zI) (hf : f_X1_addRough v0 I R = some o) : zw_FR U (o.2) (I) (J) (J) ∧ U (o.1) := by
  have hF : zw_FR U I I J J := zw_FR.rf
  unfold f_X1_addRough at hf
  obtain ⟨g1, hf⟩ := zw_gcE hf (by decide)
  obtain ⟨g2, hf⟩ := zw_gcE hf (by decide)
  obtain ⟨i3, hf⟩ := zw_inE hf
  obtain ⟨g4, hf⟩ := zw_gcE hf (by decide)
  obtain ⟨I5, eI5, hf⟩ := zw_letE hf
  have hF := hF.wI eI5 hv0
  obtain ⟨q6, hq6, hf⟩ := zw_bdE hf
  have hF := (fr_X0_empty U hU (R (R v0 4) (Int32.toNatClampNeg (I v0 5))) I5 J (hU _ _ (hU _ _ hv0)) _ hq6).tr hF
  cases hf
  exact ⟨hF, (hU _ _ (hU _ _ hv0))⟩
theorem fr_X2_begin (U : Nat → Prop) {R : zR} (hU : ∀ o j, U o → U (R o j)) (v0 : Nat) (v1 : Nat) (v2 : Int32) (I : zI) (J : zJ) (hv0 : U v0) (o : zI) (hf : f_X2_begin v0 v1 v2 I R = some o) : zw_FR U (o) (I) (J) (J) := by
  have hF : zw_FR U I I J J := zw_FR.rf
  unfold f_X2_begin at hf
  obtain ⟨g1, hf⟩ := zw_gcE hf (by decide)
  obtain ⟨g2, hf⟩ := zw_gcE hf (by decide)
  obtain ⟨q3, hq3, hf⟩ := zw_bdE hf
  have hF := (fr_J7_fill_53178 U hU (R v0 2) 0 I J (hU _ _ hv0) _ hq3).tr hF
  obtain ⟨g4, hf⟩ := zw_gcE hf (by decide)
  obtain ⟨q5, hq5, hf⟩ := zw_bdE hf
  have hF := (fr_J7_fill_53178 U hU (R v0 3) 0 q3 J (hU _ _ hv0) _ hq5).tr hF
  obtain ⟨I6, eI6, hf⟩ := zw_letE hf
  have hF := hF.wI eI6 hv0
  obtain ⟨I7, eI7, hf⟩ := zw_letE hf
  have hF := hF.wI eI7 hv0
  obtain ⟨g8, hf⟩ := zw_gcE hf (by decide)
  obtain ⟨g9, hf⟩ := zw_gcE hf (by decide)
  obtain ⟨i10, hf⟩ := zw_inE hf
  obtain ⟨I11, eI11, hf⟩ := zw_letE hf
  have hF := hF.wI eI11 hv0
  obtain ⟨g12, hf⟩ := zw_gcE hf (by decide)
  obtain ⟨i13, hf⟩ := zw_inE hf
  obtain ⟨I14, eI14, hf⟩ := zw_letE hf
  have hF := hF.wI eI14 hv0
  obtain ⟨I15, eI15, hf⟩ := zw_letE hf
  have hF := hF.wI eI15 hv0
  cases hf
  exact hF
def zp_X2_enter_50 (I : zI) (J : zJ) (o : (Int32 × zI) ⊕ (zI)) : zI × zJ := match o with | .inl t => (t.2, J) | .inr r => (r, J)
theorem fr_s_X2_enter_50 (U : Nat → Prop) {R : zR} (hU : ∀ o j, U o → U (R o j)) (v0 : Nat) (v1 : Nat) (v2 : Int32) (v4 : Int32) (J : zJ) (hv0 : U v0) (s : Int32 × zI) (o : (Int32 × zI) ⊕ (zI)) (hf : s_X2_enter_50 v0 v1 v2 v4 R s = some o) : zw_FR U (zp_X2_enter_50 s.2 J o).1 (s.2) (zp_X2_enter_50 s.2 J o).2 (J) := by
  have hF : zw_FR U (s.2) (s.2) (J) (J) := zw_FR.rf
  unfold s_X2_enter_50 at hf
  rcases zw_ifE hf with ⟨c10, hf⟩ | ⟨c10, hf⟩
  ·
    cases hf
    exact hF
  ·
    obtain ⟨g11, hf⟩ := zw_gcE hf (by decide)
    obtain ⟨g12, hf⟩ := zw_gcE hf (by decide)
    obtain ⟨q13, hq13, hf⟩ := zw_bdE hf
    rcases zw_ifE hf with ⟨c14, hf⟩ | ⟨c14, hf⟩
    ·
      cases hf
      exact hF
    ·
      obtain ⟨i15, hf⟩ := zw_inE hf
      obtain ⟨I16, eI16, hf⟩ := zw_letE hf
      have hF := hF.wI eI16 hv0
      obtain ⟨i17, hf⟩ := zw_inE hf
      obtain ⟨I18, eI18, hf⟩ := zw_letE hf
      have hF := hF.wI eI18 hv0
      obtain ⟨x19, ex19, hf⟩ := zw_letE hf
      cases hf
      exact hF
theorem fr_s_X2_enter_50_lp (U : Nat → Prop) {R : zR} (hU : ∀ o j, U o → U (R o j)) (v0 : Nat) (v1 : Nat) (v2 : Int32) (v4 : Int32) (J : zJ) (hv0 : U v0) (n : Nat) (s : Int32 × zI) (r : zI) (h : zw_it (s_X2_enter_50 v0 v1 v2 v4 R) n s = some r) : zw_FR U (zp_X2_enter_50 (s.2) (J) (.inr r)).1 (s.2) (zp_X2_enter_50 (s.2) (J) (.inr r)).2 (J) :=
  zw_itF (A := fun t t0 : Int32 × zI => zw_FR U (t.2) (t0.2) (J) (J)) (Q := fun (r : zI) (t : Int32 × zI) => zw_FR U (zp_X2_enter_50 (t.2) (J) (.inr r)).1 (t.2) (zp_X2_enter_50 (t.2) (J) (.inr r)).2 (J)) (fun s o h1 => by
    have h2 := fr_s_X2_enter_50 U hU v0 v1 v2 v4 J hv0 s o h1
    cases o with
    | inl t => exact h2
    | inr r => exact h2) (fun h1 h2 => zw_FR.tr h2 h1) n s r h
theorem fr_j_X2_enter_164 (U : Nat → Prop) {R : zR} (hU : ∀ o j, U o → U (R o j)) (v0 : Nat) (v4 : Int32) (s0 : Nat) (s1 : Int32) (I : zI) (J : zJ) (hv0 : U v0) (hs0 : U s0) (o : zI) (hf : j_X2_enter_164 v0 v4 s0 s1 I R = some o) : zw_FR U (o) (I) (J) (J) := by
  have hF : zw_FR U I I J J := zw_FR.rf
  unfold j_X2_enter_164 at hf
  obtain ⟨g27, hf⟩ := zw_gcE hf (by decide)
  obtain ⟨I28, eI28, hf⟩ := zw_letE hf
  have hF := hF.wI eI28 hs0
  obtain ⟨g29, hf⟩ := zw_gcE hf (by decide)
  obtain ⟨g30, hf⟩ := zw_gcE hf (by decide)
  obtain ⟨i31, hf⟩ := zw_inE hf
  obtain ⟨i32, hf⟩ := zw_inE hf
  obtain ⟨I33, eI33, hf⟩ := zw_letE hf
  have hF := hF.wI eI33 (hU _ _ hv0)
  cases hf
  exact hF
theorem fr_j_X2_enter_141 (U : Nat → Prop) {R : zR} (hU : ∀ o j, U o → U (R o j)) (v0 : Nat) (v4 : Int32) (s0 : Int32) (I : zI) (J : zJ) (hv0 : U v0) (o : zI) (hf : j_X2_enter_141 v0 v4 s0 I R = some o) : zw_FR U (o) (I) (J) (J) := by
  have hF : zw_FR U I I J J := zw_FR.rf
  unfold j_X2_enter_141 at hf
  rcases zw_ifE hf with ⟨c26, hf⟩ | ⟨c26, hf⟩
  ·
    exact (fr_j_X2_enter_164 U hU v0 v4 v0 0 I J hv0 hv0 _ hf).tr hF
  ·
    obtain ⟨g34, hf⟩ := zw_gcE hf (by decide)
    exact (fr_j_X2_enter_164 U hU v0 v4 v0 ((v4 * (I v0 5)) / 1000) I J hv0 hv0 _ hf).tr hF
theorem fr_j_X2_enter_112 (U : Nat → Prop) {R : zR} (hU : ∀ o j, U o → U (R o j)) (v0 : Nat) (v1 : Nat) (v2 : Int32) (v4 : Int32) (I : zI) (J : zJ) (hv0 : U v0) (o : zI) (hf : j_X2_enter_112 v0 v1 v2 v4 I R = some o) : zw_FR U (o) (I) (J) (J) := by
  have hF : zw_FR U I I J J := zw_FR.rf
  unfold j_X2_enter_112 at hf
  obtain ⟨g21, hf⟩ := zw_gcE hf (by decide)
  obtain ⟨g22, hf⟩ := zw_gcE hf (by decide)
  obtain ⟨q23, hq23, hf⟩ := zw_bdE hf
  obtain ⟨i24, hf⟩ := zw_inE hf
  rcases zw_ifE hf with ⟨c25, hf⟩ | ⟨c25, hf⟩
  ·
    exact (fr_j_X2_enter_141 U hU v0 v4 0 I J hv0 _ hf).tr hF
  ·
    exact (fr_j_X2_enter_141 U hU v0 v4 1 I J hv0 _ hf).tr hF
theorem fr_j_X2_enter_44 (U : Nat → Prop) {R : zR} (hU : ∀ o j, U o → U (R o j)) (v0 : Nat) (v1 : Nat) (v2 : Int32) (v4 : Int32) (s0 : Nat) (s1 : Int32) (I : zI) (J : zJ) (hv0 : U v0) (hs0 : U s0) (o : zI) (hf : j_X2_enter_44 v0 v1 v2 v4 s0 s1 I R = some o) : zw_FR U (o) (I) (J) (J) := by
  have hF : zw_FR U I I J J := zw_FR.rf
  unfold j_X2_enter_44 at hf
  obtain ⟨g8, hf⟩ := zw_gcE hf (by decide)
  obtain ⟨I9, eI9, hf⟩ := zw_letE hf
  have hF := hF.wI eI9 hs0
  obtain ⟨q20, hq20, hf⟩ := zw_bdE hf
  have hF := (fr_s_X2_enter_50_lp U hU v0 v1 v2 v4 J hv0 _ _ _ hq20).tr hF
  exact (fr_j_X2_enter_112 U hU v0 v1 v2 v4 q20 J hv0 _ hf).tr hF
theorem fr_j_X2_enter_31 (U : Nat → Prop) {R : zR} (hU : ∀ o j, U o → U (R o j)) (v0 : Nat) (v1 : Nat) (v2 : Int32) (v3 : Int32) (v4 : Int32) (s0 : Nat) (s1 : Int32) (I : zI) (J : zJ) (hv0 : U v0) (hs0 : U s0) (o : zI) (hf : j_X2_enter_31 v0 v1 v2 v3 v4 s0 s1 I R = some o) : zw_FR U (o) (I) (J) (J) := by
  have hF : zw_FR U I I J J := zw_FR.rf
  unfold j_X2_enter_31 at hf
  obtain ⟨g5, hf⟩ := zw_gcE hf (by decide)
  obtain ⟨I6, eI6, hf⟩ := zw_letE hf
  have hF := hF.wI eI6 hs0
  rcases zw_ifE hf with ⟨c7, hf⟩ | ⟨c7, hf⟩
  ·
    exact (fr_j_X2_enter_44 U hU v0 v1 v2 v4 v0 v3 I6 J hv0 hv0 _ hf).tr hF
  ·
    exact (fr_j_X2_enter_44 U hU v0 v1 v2 v4 v0 0 I6 J hv0 hv0 _ hf).tr hF
theorem fr_X2_enter (U : Nat → Prop) {R : zR} (hU : ∀ o j, U o → U (R o j)) (v0 : Nat) (v1 : Nat) (v2 : Int32) (v3 : Int32) (v4 : Int32) (I : zI) (J : zJ) (hv0 : U v0) (o : zI) (hf : f_X2_enter v0 v1 v2 v3 v4 I R = some o) : zw_FR U (o) (I) (J) (J) := by
  have hF : zw_FR U I I J J := zw_FR.rf
  unfold f_X2_enter at hf
  obtain ⟨g1, hf⟩ := zw_gcE hf (by decide)
  obtain ⟨I2, eI2, hf⟩ := zw_letE hf
  have hF := hF.wI eI2 hv0
  rcases zw_ifE hf with ⟨c3, hf⟩ | ⟨c3, hf⟩
  ·
    rcases zw_ifE hf with ⟨c4, hf⟩ | ⟨c4, hf⟩
    ·
      exact (fr_j_X2_enter_31 U hU v0 v1 v2 v3 v4 v0 0 I2 J hv0 hv0 _ hf).tr hF
    ·
      obtain ⟨g35, hf⟩ := zw_gcE hf (by decide)
      exact (fr_j_X2_enter_31 U hU v0 v1 v2 v3 v4 v0 ((I2 v1 1) - 1) I2 J hv0 hv0 _ hf).tr hF
  ·
    exact (fr_j_X2_enter_31 U hU v0 v1 v2 v3 v4 v0 v3 I2 J hv0 hv0 _ hf).tr hF
theorem fr_j_X2_goThrough_128 (U : Nat → Prop) {R : zR} (hU : ∀ o j, U o → U (R o j)) (v0 : Nat) (v1 : Nat) (I : zI) (J : zJ) (hv0 : U v0) (o : zI) (hf : j_X2_goThrough_128 v0 v1 I R = some o) : zw_FR U (o) (I) (J) (J) := by
  have hF : zw_FR U I I J J := zw_FR.rf
  unfold j_X2_goThrough_128 at hf
  obtain ⟨g10, hf⟩ := zw_gcE hf (by decide)
  obtain ⟨i11, hf⟩ := zw_inE hf
  obtain ⟨x12, ex12, hf⟩ := zw_letE hf
  obtain ⟨i13, hf⟩ := zw_inE hf
  obtain ⟨x14, ex14, hf⟩ := zw_letE hf
  obtain ⟨x15, ex15, hf⟩ := zw_letE hf
  obtain ⟨g16, hf⟩ := zw_gcE hf (by decide)
  obtain ⟨q17, hq17, hf⟩ := zw_bdE hf
  obtain ⟨i18, hf⟩ := zw_inE hf
  rcases zw_ifE hf with ⟨c19, hf⟩ | ⟨c19, hf⟩
  ·
    obtain ⟨q20, hq20, hf⟩ := zw_bdE hf
    have hF := (fr_X2_goOut U hU v0 (I v0 5) I J hv0 _ hq20).tr hF
    obtain ⟨I21, eI21, hf⟩ := zw_letE hf
    have hF := hF.wI eI21 hv0
    cases hf
    exact hF
  ·
    obtain ⟨I22, eI22, hf⟩ := zw_letE hf
    have hF := hF.wI eI22 hv0
    obtain ⟨I23, eI23, hf⟩ := zw_letE hf
    have hF := hF.wI eI23 hv0
    cases hf
    exact hF
theorem fr_X2_goThrough (U : Nat → Prop) {R : zR} (hU : ∀ o j, U o → U (R o j)) (v0 : Nat) (v1 : Nat) (I : zI) (J : zJ) (hv0 : U v0) (o : zI) (hf : f_X2_goThrough v0 v1 I R = some o) : zw_FR U (o) (I) (J) (J) := by
  have hF : zw_FR U I I J J := zw_FR.rf
  unfold f_X2_goThrough at hf
  obtain ⟨g1, hf⟩ := zw_gcE hf (by decide)
  obtain ⟨g2, hf⟩ := zw_gcE hf (by decide)
  obtain ⟨q3, hq3, hf⟩ := zw_bdE hf
  obtain ⟨g4, hf⟩ := zw_gcE hf (by decide)
  obtain ⟨i5, hf⟩ := zw_inE hf
  obtain ⟨I6, eI6, hf⟩ := zw_letE hf
  have hF := hF.wI eI6 (hU _ _ hv0)
  obtain ⟨I7, eI7, hf⟩ := zw_letE hf
  have hF := hF.wI eI7 hv0
  rcases zw_ifE hf with ⟨c8, hf⟩ | ⟨c8, hf⟩
  ·
    rcases zw_ifE hf with ⟨c9, hf⟩ | ⟨c9, hf⟩
    ·
      exact (fr_j_X2_goThrough_128 U hU v0 v1 I7 J hv0 _ hf).tr hF
    ·
      obtain ⟨q24, hq24, hf⟩ := zw_bdE hf
      have hF := (fr_X2_goOut U hU v0 (I7 v0 6) I7 J hv0 _ hq24).tr hF
      obtain ⟨i25, hf⟩ := zw_inE hf
      obtain ⟨I26, eI26, hf⟩ := zw_letE hf
      have hF := hF.wI eI26 hv0
      exact (fr_j_X2_goThrough_128 U hU v0 v1 I26 J hv0 _ hf).tr hF
  ·
    obtain ⟨x27, ex27, hf⟩ := zw_letE hf
    obtain ⟨g28, hf⟩ := zw_gcE hf (by decide)
    obtain ⟨i29, hf⟩ := zw_inE hf
    obtain ⟨i30, hf⟩ := zw_inE hf
    obtain ⟨I31, eI31, hf⟩ := zw_letE hf
    have hF := hF.wI eI31 (hU _ _ hv0)
    obtain ⟨I32, eI32, hf⟩ := zw_letE hf
    have hF := hF.wI eI32 hv0
    obtain ⟨I33, eI33, hf⟩ := zw_letE hf
    have hF := hF.wI eI33 hv0
    exact (fr_j_X2_goThrough_128 U hU v0 v1 I33 J hv0 _ hf).tr hF
theorem fr_X3_takeName (U : Nat → Prop) {R : zR} (hU : ∀ o j, U o → U (R o j)) (v0 : Nat) (v1 : Nat) (I : zI) (J : zJ) (hv0 : U v0) (o : zI × zJ) (hf : f_X3_takeName v0 v1 I R J = some o) : zw_FR U (o.1) (I) (o.2) (J) := by
  have hF : zw_FR U I I J J := zw_FR.rf
  unfold f_X3_takeName at hf
  obtain ⟨g1, hf⟩ := zw_gcE hf (by decide)
  obtain ⟨g2, hf⟩ := zw_gcE hf (by decide)
  obtain ⟨g3, hf⟩ := zw_gcE hf (by decide)
  obtain ⟨i4, hf⟩ := zw_inE hf
  obtain ⟨x5, ex5, hf⟩ := zw_letE hf
  obtain ⟨g6, hf⟩ := zw_gcE hf (by decide)
  obtain ⟨i7, hf⟩ := zw_inE hf
  obtain ⟨x8, ex8, hf⟩ := zw_letE hf
  obtain ⟨q9, hq9, hf⟩ := zw_bdE hf
  have hF := (fr_X3_take U hU v0 v1 2 1 I J hv0 _ hq9).tr hF
  rcases zw_ifE hf with ⟨c10, hf⟩ | ⟨c10, hf⟩
  ·
    cases hf
    exact hF
  ·
    obtain ⟨g11, hf⟩ := zw_gcE hf (by decide)
    obtain ⟨q12, hq12, hf⟩ := zw_bdE hf
    have hF := (fr_X1_addName U hU (R v0 2) x8 q9.2 J (hU _ _ hv0) _ hq12).tr hF
    rcases zw_ifE hf with ⟨c13, hf⟩ | ⟨c13, hf⟩
    ·
      cases hf
      exact hF
    ·
      obtain ⟨q14, hq14, hf⟩ := zw_bdE hf
      have hF := (fr_X3_noteLater U hU v0 3 x5 q12.2.1 q12.2.2 hv0 _ hq14).tr hF
      cases hf
      exact hF
theorem fr_X3_takeShare (U : Nat → Prop) {R : zR} (hU : ∀ o j, U o → U (R o j)) (v0 : Nat) (v1 : Nat) (v2 : Int32) (I : zI) (J : zJ) (hv0 : U v0) (o : Int32 × zI) (hf : f_X3_takeShare v0 v1 v2 I R J = some o) : zw_FR U (o.2) (I) (J) (J) := by
  have hF : zw_FR U I I J J := zw_FR.rf
  unfold f_X3_takeShare at hf
  obtain ⟨g1, hf⟩ := zw_gcE hf (by decide)
  obtain ⟨g2, hf⟩ := zw_gcE hf (by decide)
  obtain ⟨g3, hf⟩ := zw_gcE hf (by decide)
  obtain ⟨i4, hf⟩ := zw_inE hf
  obtain ⟨x5, ex5, hf⟩ := zw_letE hf
  obtain ⟨g6, hf⟩ := zw_gcE hf (by decide)
  obtain ⟨i7, hf⟩ := zw_inE hf
  obtain ⟨x8, ex8, hf⟩ := zw_letE hf
  obtain ⟨q9, hq9, hf⟩ := zw_bdE hf
  have hF := (fr_X3_take U hU v0 v1 3 v2 I J hv0 _ hq9).tr hF
  rcases zw_ifE hf with ⟨c10, hf⟩ | ⟨c10, hf⟩
  ·
    cases hf
    exact hF
  ·
    rcases zw_ifE hf with ⟨c11, hf⟩ | ⟨c11, hf⟩
    ·
      cases hf
      exact hF
    ·
      obtain ⟨q12, hq12, hf⟩ := zw_bdE hf
      have hF := (fr_X3_noteLater U hU v0 5 x5 q9.2 J hv0 _ hq12).tr hF
      cases hf
      exact hF
theorem fr_X4_joined (U : Nat → Prop) {R : zR} (hU : ∀ o j, U o → U (R o j)) (v0 : Nat) (v1 : Int32) (v2 : Int32) (v3 : Int32) (I : zI) (J : zJ) (hv0 : U v0) (o : Int32 × zI) (hf : f_X4_joined v0 v1 v2 v3 I = some o) : zw_FR U (o.2) (I) (J) (J) := by
  have hF : zw_FR U I I J J := zw_FR.rf
  unfold f_X4_joined at hf
  rcases zw_ifE hf with ⟨c1, hf⟩ | ⟨c1, hf⟩
  ·
    cases hf
    exact hF
  ·
    rcases zw_ifE hf with ⟨c2, hf⟩ | ⟨c2, hf⟩
    ·
      cases hf
      exact hF
    ·
      rcases zw_ifE hf with ⟨c3, hf⟩ | ⟨c3, hf⟩
      ·
        cases hf
        exact hF
      ·
        rcases zw_ifE hf with ⟨c4, hf⟩ | ⟨c4, hf⟩
        ·
          obtain ⟨g5, hf⟩ := zw_gcE hf (by decide)
          obtain ⟨q6, hq6, hf⟩ := zw_bdE hf
          have hF := (fr_X4_divided U hU v0 v2 v3 I J hv0 _ hq6).tr hF
          cases hf
          exact hF
        ·
          rcases zw_ifE hf with ⟨c7, hf⟩ | ⟨c7, hf⟩
          ·
            obtain ⟨g8, hf⟩ := zw_gcE hf (by decide)
            obtain ⟨q9, hq9, hf⟩ := zw_bdE hf
            have hF := (fr_X4_compared U hU v0 v1 v2 v3 I J hv0 _ hq9).tr hF
            rcases zw_ifE hf with ⟨c10, hf⟩ | ⟨c10, hf⟩
            ·
              cases hf
              exact hF
            ·
              cases hf
              exact hF
          ·
            rcases zw_ifE hf with ⟨c11, hf⟩ | ⟨c11, hf⟩
            ·
              obtain ⟨g12, hf⟩ := zw_gcE hf (by decide)
              obtain ⟨q13, hq13, hf⟩ := zw_bdE hf
              have hF := (fr_X4_compared U hU v0 v1 v2 v3 I J hv0 _ hq13).tr hF
              rcases zw_ifE hf with ⟨c14, hf⟩ | ⟨c14, hf⟩
              ·
                cases hf
                exact hF
              ·
                cases hf
                exact hF
            ·
              rcases zw_ifE hf with ⟨c15, hf⟩ | ⟨c15, hf⟩
              ·
                obtain ⟨g16, hf⟩ := zw_gcE hf (by decide)
                obtain ⟨q17, hq17, hf⟩ := zw_bdE hf
                have hF := (fr_X4_compared U hU v0 v1 v2 v3 I J hv0 _ hq17).tr hF
                rcases zw_ifE hf with ⟨c18, hf⟩ | ⟨c18, hf⟩
                ·
                  cases hf
                  exact hF
                ·
                  cases hf
                  exact hF
              ·
                rcases zw_ifE hf with ⟨c19, hf⟩ | ⟨c19, hf⟩
                ·
                  obtain ⟨g20, hf⟩ := zw_gcE hf (by decide)
                  obtain ⟨q21, hq21, hf⟩ := zw_bdE hf
                  have hF := (fr_X4_compared U hU v0 v1 v2 v3 I J hv0 _ hq21).tr hF
                  rcases zw_ifE hf with ⟨c22, hf⟩ | ⟨c22, hf⟩
                  ·
                    cases hf
                    exact hF
                  ·
                    cases hf
                    exact hF
                ·
                  rcases zw_ifE hf with ⟨c23, hf⟩ | ⟨c23, hf⟩
                  ·
                    obtain ⟨g24, hf⟩ := zw_gcE hf (by decide)
                    obtain ⟨q25, hq25, hf⟩ := zw_bdE hf
                    have hF := (fr_X4_compared U hU v0 v1 v2 v3 I J hv0 _ hq25).tr hF
                    rcases zw_ifE hf with ⟨c26, hf⟩ | ⟨c26, hf⟩
                    ·
                      cases hf
                      exact hF
                    ·
                      cases hf
                      exact hF
                  ·
                    rcases zw_ifE hf with ⟨c27, hf⟩ | ⟨c27, hf⟩
                    ·
                      obtain ⟨g28, hf⟩ := zw_gcE hf (by decide)
                      obtain ⟨q29, hq29, hf⟩ := zw_bdE hf
                      have hF := (fr_X4_compared U hU v0 v1 v2 v3 I J hv0 _ hq29).tr hF
                      rcases zw_ifE hf with ⟨c30, hf⟩ | ⟨c30, hf⟩
                      ·
                        cases hf
                        exact hF
                      ·
                        cases hf
                        exact hF
                    ·
                      rcases zw_ifE hf with ⟨c31, hf⟩ | ⟨c31, hf⟩
                      ·
                        obtain ⟨g32, hf⟩ := zw_gcE hf (by decide)
                        obtain ⟨q33, hq33, hf⟩ := zw_bdE hf
                        have hF := (fr_X4_compared U hU v0 v1 v2 v3 I J hv0 _ hq33).tr hF
                        rcases zw_ifE hf with ⟨c34, hf⟩ | ⟨c34, hf⟩
                        ·
                          cases hf
                          exact hF
                        ·
                          cases hf
                          exact hF
                      ·
                        rcases zw_ifE hf with ⟨c35, hf⟩ | ⟨c35, hf⟩
                        ·
                          obtain ⟨g36, hf⟩ := zw_gcE hf (by decide)
                          obtain ⟨q37, hq37, hf⟩ := zw_bdE hf
                          have hF := (fr_X4_compared U hU v0 v1 v2 v3 I J hv0 _ hq37).tr hF
                          rcases zw_ifE hf with ⟨c38, hf⟩ | ⟨c38, hf⟩
                          ·
                            cases hf
                            exact hF
                          ·
                            cases hf
                            exact hF
                        ·
                          rcases zw_ifE hf with ⟨c39, hf⟩ | ⟨c39, hf⟩
                          ·
                            obtain ⟨g40, hf⟩ := zw_gcE hf (by decide)
                            obtain ⟨q41, hq41, hf⟩ := zw_bdE hf
                            have hF := (fr_X4_compared U hU v0 v1 v2 v3 I J hv0 _ hq41).tr hF
                            rcases zw_ifE hf with ⟨c42, hf⟩ | ⟨c42, hf⟩
                            ·
                              cases hf
                              exact hF
                            ·
                              cases hf
                              exact hF
                          ·
                            rcases zw_ifE hf with ⟨c43, hf⟩ | ⟨c43, hf⟩
                            ·
                              obtain ⟨g44, hf⟩ := zw_gcE hf (by decide)
                              obtain ⟨q45, hq45, hf⟩ := zw_bdE hf
                              have hF := (fr_X4_compared U hU v0 v1 v2 v3 I J hv0 _ hq45).tr hF
                              rcases zw_ifE hf with ⟨c46, hf⟩ | ⟨c46, hf⟩
                              ·
                                cases hf
                                exact hF
                              ·
                                cases hf
                                exact hF
                            ·
                              rcases zw_ifE hf with ⟨c47, hf⟩ | ⟨c47, hf⟩
                              ·
                                obtain ⟨g48, hf⟩ := zw_gcE hf (by decide)
                                obtain ⟨q49, hq49, hf⟩ := zw_bdE hf
                                have hF := (fr_X4_compared U hU v0 v1 v2 v3 I J hv0 _ hq49).tr hF
                                rcases zw_ifE hf with ⟨c50, hf⟩ | ⟨c50, hf⟩
                                ·
                                  cases hf
                                  exact hF
                                ·
                                  cases hf
                                  exact hF
                              ·
                                rcases zw_ifE hf with ⟨c51, hf⟩ | ⟨c51, hf⟩
                                ·
                                  obtain ⟨g52, hf⟩ := zw_gcE hf (by decide)
                                  obtain ⟨q53, hq53, hf⟩ := zw_bdE hf
                                  have hF := (fr_X4_compared U hU v0 v1 v2 v3 I J hv0 _ hq53).tr hF
                                  rcases zw_ifE hf with ⟨c54, hf⟩ | ⟨c54, hf⟩
                                  ·
                                    cases hf
                                    exact hF
                                  ·
                                    cases hf
                                    exact hF
                                ·
                                  rcases zw_ifE hf with ⟨c55, hf⟩ | ⟨c55, hf⟩
                                  ·
                                    obtain ⟨g56, hf⟩ := zw_gcE hf (by decide)
                                    obtain ⟨q57, hq57, hf⟩ := zw_bdE hf
                                    have hF := (fr_X4_compared U hU v0 v1 v2 v3 I J hv0 _ hq57).tr hF
                                    rcases zw_ifE hf with ⟨c58, hf⟩ | ⟨c58, hf⟩
                                    ·
                                      cases hf
                                      exact hF
                                    ·
                                      cases hf
                                      exact hF
                                  ·
                                    rcases zw_ifE hf with ⟨c59, hf⟩ | ⟨c59, hf⟩
                                    ·
                                      cases hf
                                      exact hF
                                    ·
                                      rcases zw_ifE hf with ⟨c60, hf⟩ | ⟨c60, hf⟩
                                      ·
                                        cases hf
                                        exact hF
                                      ·
                                        obtain ⟨g61, hf⟩ := zw_gcE hf (by decide)
                                        obtain ⟨q62, hq62, hf⟩ := zw_bdE hf
                                        have hF := (fr_X4_compared U hU v0 v1 v2 v3 I J hv0 _ hq62).tr hF
                                        rcases zw_ifE hf with ⟨c63, hf⟩ | ⟨c63, hf⟩
                                        ·
                                          cases hf
                                          exact hF
                                        ·
                                          cases hf
                                          exact hF
def zp_X8_keepInt_21 (I : zI) (J : zJ) (o : (Int32 × zJ) ⊕ (zJ)) : zI × zJ := match o with | .inl t => (I, t.2) | .inr r => (I, r)
theorem fr_s_X8_keepInt_21 (U : Nat → Prop) {R : zR} (hU : ∀ o j, U o → U (R o j)) (v0 : Nat) (v1 : Int32) (v2 : Int32) (v3 : Int32) (I : zI) (hv0 : U v0) (s : Int32 × zJ) (o : (Int32 × zJ) ⊕ (zJ)) (hf : s_X8_keepInt_21 v0 v1 v2 v3 I R s = some o) : zw_FR U (zp_X8_keepInt_21 I s.2 o).1 (I) (zp_X8_keepInt_21 I s.2 o).2 (s.2) := by
  have hF : zw_FR U (I) (I) (s.2) (s.2) := zw_FR.rf
  unfold s_X8_keepInt_21 at hf
  rcases zw_ifE hf with ⟨c7, hf⟩ | ⟨c7, hf⟩
  ·
    cases hf
    exact hF
  ·
    rcases zw_ifE hf with ⟨c8, hf⟩ | ⟨c8, hf⟩
    ·
      cases hf
      exact hF
    ·
      obtain ⟨g9, hf⟩ := zw_gcE hf (by decide)
      obtain ⟨g10, hf⟩ := zw_gcE hf (by decide)
      obtain ⟨i11, hf⟩ := zw_inE hf
      obtain ⟨q12, hq12, hf⟩ := zw_bdE hf
      obtain ⟨i13, hf⟩ := zw_inE hf
      obtain ⟨J14, eJ14, hf⟩ := zw_letE hf
      have hF := hF.wJ eJ14 (hU _ _ hv0)
      obtain ⟨x15, ex15, hf⟩ := zw_letE hf
      cases hf
      exact hF
theorem fr_s_X8_keepInt_21_lp (U : Nat → Prop) {R : zR} (hU : ∀ o j, U o → U (R o j)) (v0 : Nat) (v1 : Int32) (v2 : Int32) (v3 : Int32) (I : zI) (hv0 : U v0) (n : Nat) (s : Int32 × zJ) (r : zJ) (h : zw_it (s_X8_keepInt_21 v0 v1 v2 v3 I R) n s = some r) : zw_FR U (zp_X8_keepInt_21 (I) (s.2) (.inr r)).1 (I) (zp_X8_keepInt_21 (I) (s.2) (.inr r)).2 (s.2) :=
  zw_itF (A := fun t t0 : Int32 × zJ => zw_FR U (I) (I) (t.2) (t0.2)) (Q := fun (r : zJ) (t : Int32 × zJ) => zw_FR U (zp_X8_keepInt_21 (I) (t.2) (.inr r)).1 (I) (zp_X8_keepInt_21 (I) (t.2) (.inr r)).2 (t.2)) (fun s o h1 => by
    have h2 := fr_s_X8_keepInt_21 U hU v0 v1 v2 v3 I hv0 s o h1
    cases o with
    | inl t => exact h2
    | inr r => exact h2) (fun h1 h2 => zw_FR.tr h2 h1) n s r h
theorem fr_j_X8_keepInt_17 (U : Nat → Prop) {R : zR} (hU : ∀ o j, U o → U (R o j)) (v0 : Nat) (v1 : Int32) (v2 : Int32) (v3 : Int32) (s0 : Nat) (s1 : Int32) (s2 : Int32) (I : zI) (J : zJ) (hv0 : U v0) (hs0 : U s0) (o : zI × zJ) (hf : j_X8_keepInt_17 v0 v1 v2 v3 s0 s1 s2 I R J = some o) : zw_FR U (o.1) (I) (o.2) (J) := by
  have hF : zw_FR U I I J J := zw_FR.rf
  unfold j_X8_keepInt_17 at hf
  obtain ⟨g4, hf⟩ := zw_gcE hf (by decide)
  obtain ⟨i5, hf⟩ := zw_inE hf
  obtain ⟨I6, eI6, hf⟩ := zw_letE hf
  have hF := hF.wI eI6 hs0
  obtain ⟨q16, hq16, hf⟩ := zw_bdE hf
  have hF := (fr_s_X8_keepInt_21_lp U hU v0 v1 v2 v3 I6 hv0 _ _ _ hq16).tr hF
  cases hf
  exact hF
theorem fr_X8_keepInt (U : Nat → Prop) {R : zR} (hU : ∀ o j, U o → U (R o j)) (v0 : Nat) (v1 : Int32) (v2 : Int32) (v3 : Int32) (I : zI) (J : zJ) (hv0 : U v0) (o : zI × zJ) (hf : f_X8_keepInt v0 v1 v2 v3 I R J = some o) : zw_FR U (o.1) (I) (o.2) (J) := by
  have hF : zw_FR U I I J J := zw_FR.rf
  unfold f_X8_keepInt at hf
  obtain ⟨g1, hf⟩ := zw_gcE hf (by decide)
  obtain ⟨g2, hf⟩ := zw_gcE hf (by decide)
  rcases zw_ifE hf with ⟨c3, hf⟩ | ⟨c3, hf⟩
  ·
    exact (fr_j_X8_keepInt_17 U hU v0 v1 v2 v3 (R v0 2) v1 1 I J hv0 (hU _ _ hv0) _ hf).tr hF
  ·
    exact (fr_j_X8_keepInt_17 U hU v0 v1 v2 v3 (R v0 2) v1 3 I J hv0 (hU _ _ hv0) _ hf).tr hF
theorem fr_j_X3_readUnit_85 (U : Nat → Prop) {R : zR} (hU : ∀ o j, U o → U (R o j)) (g : Nat → Nat → Int32 → zI → zR → zJ → Option (zI)) (hgf : ∀ (v0 : Nat) (v1 : Nat) (v2 : Int32) (I : zI) (J : zJ) (hv0 : U v0) (o : zI), g v0 v1 v2 I R J = some o → zw_FR U (o) I (J) J) (v0 : Nat) (v1 : Nat) (I : zI) (J : zJ) (hv0 : U v0) (o : zI) (hf : j_X3_readUnit_85 g v0 v1 I R J = some o) : zw_FR U (o) (I) (J) (J) := by
  have hF : zw_FR U I I J J := zw_FR.rf
  unfold j_X3_readUnit_85 at hf
  obtain ⟨g5, hf⟩ := zw_gcE hf (by decide)
  obtain ⟨g6, hf⟩ := zw_gcE hf (by decide)
  obtain ⟨g7, hf⟩ := zw_gcE hf (by decide)
  obtain ⟨i8, hf⟩ := zw_inE hf
  obtain ⟨x9, ex9, hf⟩ := zw_letE hf
  obtain ⟨q10, hq10, hf⟩ := zw_bdE hf
  have hF := (fr_X3_take U hU v0 v1 3 1 I J hv0 _ hq10).tr hF
  obtain ⟨g11, hf⟩ := zw_gcE hf (by decide)
  obtain ⟨q12, hq12, hf⟩ := zw_bdE hf
  have hF := (fr_X1_addCode U hU (R v0 2) 3 x9 q10.2 J (hU _ _ hv0) _ hq12).tr hF
  cases hf
  exact hF
theorem fr_j_X3_readUnit_27 (U : Nat → Prop) {R : zR} (hU : ∀ o j, U o → U (R o j)) (g : Nat → Nat → Int32 → zI → zR → zJ → Option (zI)) (hgf : ∀ (v0 : Nat) (v1 : Nat) (v2 : Int32) (I : zI) (J : zJ) (hv0 : U v0) (o : zI), g v0 v1 v2 I R J = some o → zw_FR U (o) I (J) J) (v0 : Nat) (v1 : Nat) (v2 : Int32) (s0 : Nat) (s1 : Nat) (s2 : Int32) (s3 : Int32) (I : zI) (J : zJ) (hv0 : U v0) (hs0 : U s0) (o : zI) (hf : j_X3_readUnit_27 g v0 v1 v2 s0 s1 s2 s3 I R J = some o) : zw_FR U (o) (I) (J) (J) := by
  have hF : zw_FR U I I J J := zw_FR.rf
  unfold j_X3_readUnit_27 at hf
  obtain ⟨g18, hf⟩ := zw_gcE hf (by decide)
  obtain ⟨q19, hq19, hf⟩ := zw_bdE hf
  have hF := (fr_X3_take U hU s0 s1 s2 s3 I J hs0 _ hq19).tr hF
  rcases zw_ifE hf with ⟨c20, hf⟩ | ⟨c20, hf⟩
  ·
    cases hf
    exact hF
  ·
    obtain ⟨g21, hf⟩ := zw_gcE hf (by decide)
    obtain ⟨q22, hq22, hf⟩ := zw_bdE hf
    have hF := (hgf v0 v1 (v2 + 1) q19.2 J hv0 _ hq22).tr hF
    obtain ⟨q23, hq23, hf⟩ := zw_bdE hf
    have hF := (fr_X3_take U hU v0 v1 13 1 q22 J hv0 _ hq23).tr hF
    cases hf
    exact hF
theorem fr_X3_readUnit (U : Nat → Prop) {R : zR} (hU : ∀ o j, U o → U (R o j)) (g : Nat → Nat → Int32 → zI → zR → zJ → Option (zI)) (hgf : ∀ (v0 : Nat) (v1 : Nat) (v2 : Int32) (I : zI) (J : zJ) (hv0 : U v0) (o : zI), g v0 v1 v2 I R J = some o → zw_FR U (o) I (J) J) (v0 : Nat) (v1 : Nat) (v2 : Int32) (I : zI) (J : zJ) (hv0 : U v0) (o : zI) (hf : f_X3_readUnit g v0 v1 v2 I R J = some o) : zw_FR U (o) (I) (J) (J) := by
  have hF : zw_FR U I I J J := zw_FR.rf
  unfold f_X3_readUnit at hf
  obtain ⟨g1, hf⟩ := zw_gcE hf (by decide)
  obtain ⟨q2, hq2, hf⟩ := zw_bdE hf
  rcases zw_ifE hf with ⟨c3, hf⟩ | ⟨c3, hf⟩
  ·
    rcases zw_ifE hf with ⟨c4, hf⟩ | ⟨c4, hf⟩
    ·
      exact (fr_j_X3_readUnit_85 U hU g hgf v0 v1 I J hv0 _ hf).tr hF
    ·
      rcases zw_ifE hf with ⟨c13, hf⟩ | ⟨c13, hf⟩
      ·
        exact (fr_j_X3_readUnit_85 U hU g hgf v0 v1 I J hv0 _ hf).tr hF
      ·
        obtain ⟨q14, hq14, hf⟩ := zw_bdE hf
        have hF := (fr_X3_take U hU v0 v1 q2 1 I J hv0 _ hq14).tr hF
        obtain ⟨g15, hf⟩ := zw_gcE hf (by decide)
        obtain ⟨q16, hq16, hf⟩ := zw_bdE hf
        have hF := (fr_X1_addCode U hU (R v0 2) q2 0 q14.2 J (hU _ _ hv0) _ hq16).tr hF
        cases hf
        exact hF
  ·
    rcases zw_ifE hf with ⟨c17, hf⟩ | ⟨c17, hf⟩
    ·
      exact (fr_j_X3_readUnit_27 U hU g hgf v0 v1 v2 v0 v1 12 0 I J hv0 hv0 _ hf).tr hF
    ·
      exact (fr_j_X3_readUnit_27 U hU g hgf v0 v1 v2 v0 v1 12 1 I J hv0 hv0 _ hf).tr hF
def zp_X3_readSum_19 (I : zI) (J : zJ) (o : (Int32 × Int32 × Int32 × zI) ⊕ (zI)) : zI × zJ := match o with | .inl t => (t.2.2.2, J) | .inr r => (r, J)
def zp_X3_readSum_48 (I : zI) (J : zJ) (o : (Int32 × Int32 × zI) ⊕ (Int32 × zI)) : zI × zJ := match o with | .inl t => (t.2.2, J) | .inr r => (r.2, J)
theorem fr_j_X3_readSum_70_48 (U : Nat → Prop) {R : zR} (hU : ∀ o j, U o → U (R o j)) (g : Nat → Nat → Int32 → zI → zR → zJ → Option (zI)) (hgf : ∀ (v0 : Nat) (v1 : Nat) (v2 : Int32) (I : zI) (J : zJ) (hv0 : U v0) (o : zI), g v0 v1 v2 I R J = some o → zw_FR U (o) I (J) J) (v0 : Nat) (v1 : Nat) (v2 : Int32) (v3 : Int32) (v5 : Int32) (v6 : Int32) (v7 : Int32) (I : zI) (J : zJ) (hv0 : U v0) (o : (Int32 × Int32 × zI) ⊕ (Int32 × zI)) (hf : j_X3_readSum_70_48 g v0 v1 v2 v3 v5 v6 v7 I R J = some o) : zw_FR U (zp_X3_readSum_48 I J o).1 (I) (zp_X3_readSum_48 I J o).2 (J) := by
  have hF : zw_FR U I I J J := zw_FR.rf
  unfold j_X3_readSum_70_48 at hf
  obtain ⟨g10, hf⟩ := zw_gcE hf (by decide)
  obtain ⟨q11, hq11, hf⟩ := zw_bdE hf
  have hF := (fr_X3_take U hU v0 v1 v6 1 I J hv0 _ hq11).tr hF
  obtain ⟨q12, hq12, hf⟩ := zw_bdE hf
  have hF := (fr_X3_readUnit U hU g hgf v0 v1 v2 q11.2 J hv0 _ hq12).tr hF
  obtain ⟨g13, hf⟩ := zw_gcE hf (by decide)
  obtain ⟨q14, hq14, hf⟩ := zw_bdE hf
  have hF := (fr_X1_addCode U hU (R v0 2) v6 0 q12 J (hU _ _ hv0) _ hq14).tr hF
  obtain ⟨q15, hq15, hf⟩ := zw_bdE hf
  obtain ⟨x16, ex16, hf⟩ := zw_letE hf
  cases hf
  exact hF
theorem fr_s_X3_readSum_48 (U : Nat → Prop) {R : zR} (hU : ∀ o j, U o → U (R o j)) (g : Nat → Nat → Int32 → zI → zR → zJ → Option (zI)) (hgf : ∀ (v0 : Nat) (v1 : Nat) (v2 : Int32) (I : zI) (J : zJ) (hv0 : U v0) (o : zI), g v0 v1 v2 I R J = some o → zw_FR U (o) I (J) J) (v0 : Nat) (v1 : Nat) (v2 : Int32) (v3 : Int32) (v5 : Int32) (J : zJ) (hv0 : U v0) (s : Int32 × Int32 × zI) (o : (Int32 × Int32 × zI) ⊕ (Int32 × zI)) (hf : s_X3_readSum_48 g v0 v1 v2 v3 v5 R J s = some o) : zw_FR U (zp_X3_readSum_48 s.2.2 J o).1 (s.2.2) (zp_X3_readSum_48 s.2.2 J o).2 (J) := by
  have hF : zw_FR U (s.2.2) (s.2.2) (J) (J) := zw_FR.rf
  unfold s_X3_readSum_48 at hf
  rcases zw_ifE hf with ⟨c8, hf⟩ | ⟨c8, hf⟩
  ·
    cases hf
    exact hF
  ·
    rcases zw_ifE hf with ⟨c9, hf⟩ | ⟨c9, hf⟩
    ·
      exact (fr_j_X3_readSum_70_48 U hU g hgf v0 v1 v2 v3 v5 s.1 s.2.1 s.2.2 J hv0 _ hf).tr hF
    ·
      rcases zw_ifE hf with ⟨c17, hf⟩ | ⟨c17, hf⟩
      ·
        cases hf
        exact hF
      ·
        exact (fr_j_X3_readSum_70_48 U hU g hgf v0 v1 v2 v3 v5 s.1 s.2.1 s.2.2 J hv0 _ hf).tr hF
theorem fr_s_X3_readSum_48_lp (U : Nat → Prop) {R : zR} (hU : ∀ o j, U o → U (R o j)) (g : Nat → Nat → Int32 → zI → zR → zJ → Option (zI)) (hgf : ∀ (v0 : Nat) (v1 : Nat) (v2 : Int32) (I : zI) (J : zJ) (hv0 : U v0) (o : zI), g v0 v1 v2 I R J = some o → zw_FR U (o) I (J) J) (v0 : Nat) (v1 : Nat) (v2 : Int32) (v3 : Int32) (v5 : Int32) (J : zJ) (hv0 : U v0) (n : Nat) (s : Int32 × Int32 × zI) (r : Int32 × zI) (h : zw_it (s_X3_readSum_48 g v0 v1 v2 v3 v5 R J) n s = some r) : zw_FR U (zp_X3_readSum_48 (s.2.2) (J) (.inr r)).1 (s.2.2) (zp_X3_readSum_48 (s.2.2) (J) (.inr r)).2 (J) :=
  zw_itF (A := fun t t0 : Int32 × Int32 × zI => zw_FR U (t.2.2) (t0.2.2) (J) (J)) (Q := fun (r : Int32 × zI) (t : Int32 × Int32 × zI) => zw_FR U (zp_X3_readSum_48 (t.2.2) (J) (.inr r)).1 (t.2.2) (zp_X3_readSum_48 (t.2.2) (J) (.inr r)).2 (J)) (fun s o h1 => by
    have h2 := fr_s_X3_readSum_48 U hU g hgf v0 v1 v2 v3 v5 J hv0 s o h1
    cases o with
    | inl t => exact h2
    | inr r => exact h2) (fun h1 h2 => zw_FR.tr h2 h1) n s r h
theorem fr_j_X3_readSum_155_19 (U : Nat → Prop) {R : zR} (hU : ∀ o j, U o → U (R o j)) (g : Nat → Nat → Int32 → zI → zR → zJ → Option (zI)) (hgf : ∀ (v0 : Nat) (v1 : Nat) (v2 : Int32) (I : zI) (J : zJ) (hv0 : U v0) (o : zI), g v0 v1 v2 I R J = some o → zw_FR U (o) I (J) J) (v0 : Nat) (v1 : Nat) (v2 : Int32) (v3 : Int32) (v5 : Int32) (s0 : Int32) (I : zI) (J : zJ)  (o : (Int32 × Int32 × Int32 × zI) ⊕ (zI)) (hf : j_X3_readSum_155_19 g v0 v1 v2 v3 v5 s0 I R J = some o) : zw_FR U (zp_X3_readSum_19 I J o).1 (I) (zp_X3_readSum_19 I J o).2 (J) := by
  have hF : zw_FR U I I J J := zw_FR.rf
  unfold j_X3_readSum_155_19 at hf
  obtain ⟨x24, ex24, hf⟩ := zw_letE hf
  cases hf
  exact hF
theorem fr_j_X3_readSum_154_19 (U : Nat → Prop) {R : zR} (hU : ∀ o j, U o → U (R o j)) (g : Nat → Nat → Int32 → zI → zR → zJ → Option (zI)) (hgf : ∀ (v0 : Nat) (v1 : Nat) (v2 : Int32) (I : zI) (J : zJ) (hv0 : U v0) (o : zI), g v0 v1 v2 I R J = some o → zw_FR U (o) I (J) J) (v0 : Nat) (v1 : Nat) (v2 : Int32) (v3 : Int32) (v5 : Int32) (I : zI) (J : zJ)  (o : (Int32 × Int32 × Int32 × zI) ⊕ (zI)) (hf : j_X3_readSum_154_19 g v0 v1 v2 v3 v5 I R J = some o) : zw_FR U (zp_X3_readSum_19 I J o).1 (I) (zp_X3_readSum_19 I J o).2 (J) := by
  have hF : zw_FR U I I J J := zw_FR.rf
  unfold j_X3_readSum_154_19 at hf
  exact (fr_j_X3_readSum_155_19 U hU g hgf v0 v1 v2 v3 v5 0 I J  _ hf).tr hF
theorem fr_j_X3_readSum_139_19 (U : Nat → Prop) {R : zR} (hU : ∀ o j, U o → U (R o j)) (g : Nat → Nat → Int32 → zI → zR → zJ → Option (zI)) (hgf : ∀ (v0 : Nat) (v1 : Nat) (v2 : Int32) (I : zI) (J : zJ) (hv0 : U v0) (o : zI), g v0 v1 v2 I R J = some o → zw_FR U (o) I (J) J) (v0 : Nat) (v1 : Nat) (v2 : Int32) (v3 : Int32) (v5 : Int32) (v6 : Int32) (I : zI) (J : zJ) (hv0 : U v0) (o : (Int32 × Int32 × Int32 × zI) ⊕ (zI)) (hf : j_X3_readSum_139_19 g v0 v1 v2 v3 v5 v6 I R J = some o) : zw_FR U (zp_X3_readSum_19 I J o).1 (I) (zp_X3_readSum_19 I J o).2 (J) := by
  have hF : zw_FR U I I J J := zw_FR.rf
  unfold j_X3_readSum_139_19 at hf
  obtain ⟨g21, hf⟩ := zw_gcE hf (by decide)
  obtain ⟨q22, hq22, hf⟩ := zw_bdE hf
  have hF := (fr_X3_take U hU v0 v1 v6 1 I J hv0 _ hq22).tr hF
  rcases zw_ifE hf with ⟨c23, hf⟩ | ⟨c23, hf⟩
  ·
    exact (fr_j_X3_readSum_154_19 U hU g hgf v0 v1 v2 v3 v5 q22.2 J  _ hf).tr hF
  ·
    exact (fr_j_X3_readSum_155_19 U hU g hgf v0 v1 v2 v3 v5 1 q22.2 J  _ hf).tr hF
theorem fr_j_X3_readSum_122_19 (U : Nat → Prop) {R : zR} (hU : ∀ o j, U o → U (R o j)) (g : Nat → Nat → Int32 → zI → zR → zJ → Option (zI)) (hgf : ∀ (v0 : Nat) (v1 : Nat) (v2 : Int32) (I : zI) (J : zJ) (hv0 : U v0) (o : zI), g v0 v1 v2 I R J = some o → zw_FR U (o) I (J) J) (v0 : Nat) (v1 : Nat) (v2 : Int32) (v5 : Int32) (v6 : Int32) (I : zI) (J : zJ) (hv0 : U v0) (o : (Int32 × Int32 × Int32 × zI) ⊕ (zI)) (hf : j_X3_readSum_122_19 g v0 v1 v2 v5 v6 I R J = some o) : zw_FR U (zp_X3_readSum_19 I J o).1 (I) (zp_X3_readSum_19 I J o).2 (J) := by
  have hF : zw_FR U I I J J := zw_FR.rf
  unfold j_X3_readSum_122_19 at hf
  rcases zw_ifE hf with ⟨c20, hf⟩ | ⟨c20, hf⟩
  ·
    exact (fr_j_X3_readSum_139_19 U hU g hgf v0 v1 v2 v6 v5 v6 I J hv0 _ hf).tr hF
  ·
    rcases zw_ifE hf with ⟨c25, hf⟩ | ⟨c25, hf⟩
    ·
      exact (fr_j_X3_readSum_154_19 U hU g hgf v0 v1 v2 v6 v5 I J  _ hf).tr hF
    ·
      exact (fr_j_X3_readSum_139_19 U hU g hgf v0 v1 v2 v6 v5 v6 I J hv0 _ hf).tr hF
theorem fr_j_X3_readSum_108_19 (U : Nat → Prop) {R : zR} (hU : ∀ o j, U o → U (R o j)) (g : Nat → Nat → Int32 → zI → zR → zJ → Option (zI)) (hgf : ∀ (v0 : Nat) (v1 : Nat) (v2 : Int32) (I : zI) (J : zJ) (hv0 : U v0) (o : zI), g v0 v1 v2 I R J = some o → zw_FR U (o) I (J) J) (v0 : Nat) (v1 : Nat) (v2 : Int32) (v3 : Int32) (v5 : Int32) (v6 : Int32) (I : zI) (J : zJ) (hv0 : U v0) (o : (Int32 × Int32 × Int32 × zI) ⊕ (zI)) (hf : j_X3_readSum_108_19 g v0 v1 v2 v3 v5 v6 I R J = some o) : zw_FR U (zp_X3_readSum_19 I J o).1 (I) (zp_X3_readSum_19 I J o).2 (J) := by
  have hF : zw_FR U I I J J := zw_FR.rf
  unfold j_X3_readSum_108_19 at hf
  rcases zw_ifE hf with ⟨c19, hf⟩ | ⟨c19, hf⟩
  ·
    exact (fr_j_X3_readSum_122_19 U hU g hgf v0 v1 v2 v5 v6 I J hv0 _ hf).tr hF
  ·
    obtain ⟨g26, hf⟩ := zw_gcE hf (by decide)
    obtain ⟨g27, hf⟩ := zw_gcE hf (by decide)
    obtain ⟨q28, hq28, hf⟩ := zw_bdE hf
    have hF := (fr_X1_addCode U hU (R v0 2) v3 0 I J (hU _ _ hv0) _ hq28).tr hF
    exact (fr_j_X3_readSum_122_19 U hU g hgf v0 v1 v2 v5 v6 q28 J hv0 _ hf).tr hF
theorem fr_s_X3_readSum_19 (U : Nat → Prop) {R : zR} (hU : ∀ o j, U o → U (R o j)) (g : Nat → Nat → Int32 → zI → zR → zJ → Option (zI)) (hgf : ∀ (v0 : Nat) (v1 : Nat) (v2 : Int32) (I : zI) (J : zJ) (hv0 : U v0) (o : zI), g v0 v1 v2 I R J = some o → zw_FR U (o) I (J) J) (v0 : Nat) (v1 : Nat) (v2 : Int32) (J : zJ) (hv0 : U v0) (s : Int32 × Int32 × Int32 × zI) (o : (Int32 × Int32 × Int32 × zI) ⊕ (zI)) (hf : s_X3_readSum_19 g v0 v1 v2 R J s = some o) : zw_FR U (zp_X3_readSum_19 s.2.2.2 J o).1 (s.2.2.2) (zp_X3_readSum_19 s.2.2.2 J o).2 (J) := by
  have hF : zw_FR U (s.2.2.2) (s.2.2.2) (J) (J) := zw_FR.rf
  unfold s_X3_readSum_19 at hf
  rcases zw_ifE hf with ⟨c3, hf⟩ | ⟨c3, hf⟩
  ·
    cases hf
    exact hF
  ·
    rcases zw_ifE hf with ⟨c4, hf⟩ | ⟨c4, hf⟩
    ·
      cases hf
      exact hF
    ·
      obtain ⟨g5, hf⟩ := zw_gcE hf (by decide)
      obtain ⟨q6, hq6, hf⟩ := zw_bdE hf
      have hF := (fr_X3_readUnit U hU g hgf v0 v1 v2 s.2.2.2 J hv0 _ hq6).tr hF
      obtain ⟨q7, hq7, hf⟩ := zw_bdE hf
      obtain ⟨q18, hq18, hf⟩ := zw_bdE hf
      have hF := (fr_s_X3_readSum_48_lp U hU g hgf v0 v1 v2 s.1 s.2.2.1 J hv0 _ _ _ hq18).tr hF
      exact (fr_j_X3_readSum_108_19 U hU g hgf v0 v1 v2 s.1 s.2.2.1 q18.1 q18.2 J hv0 _ hf).tr hF
theorem fr_s_X3_readSum_19_lp (U : Nat → Prop) {R : zR} (hU : ∀ o j, U o → U (R o j)) (g : Nat → Nat → Int32 → zI → zR → zJ → Option (zI)) (hgf : ∀ (v0 : Nat) (v1 : Nat) (v2 : Int32) (I : zI) (J : zJ) (hv0 : U v0) (o : zI), g v0 v1 v2 I R J = some o → zw_FR U (o) I (J) J) (v0 : Nat) (v1 : Nat) (v2 : Int32) (J : zJ) (hv0 : U v0) (n : Nat) (s : Int32 × Int32 × Int32 × zI) (r : zI) (h : zw_it (s_X3_readSum_19 g v0 v1 v2 R J) n s = some r) : zw_FR U (zp_X3_readSum_19 (s.2.2.2) (J) (.inr r)).1 (s.2.2.2) (zp_X3_readSum_19 (s.2.2.2) (J) (.inr r)).2 (J) :=
  zw_itF (A := fun t t0 : Int32 × Int32 × Int32 × zI => zw_FR U (t.2.2.2) (t0.2.2.2) (J) (J)) (Q := fun (r : zI) (t : Int32 × Int32 × Int32 × zI) => zw_FR U (zp_X3_readSum_19 (t.2.2.2) (J) (.inr r)).1 (t.2.2.2) (zp_X3_readSum_19 (t.2.2.2) (J) (.inr r)).2 (J)) (fun s o h1 => by
    have h2 := fr_s_X3_readSum_19 U hU g hgf v0 v1 v2 J hv0 s o h1
    cases o with
    | inl t => exact h2
    | inr r => exact h2) (fun h1 h2 => zw_FR.tr h2 h1) n s r h
theorem fr_j_X3_readSum_14 (U : Nat → Prop) {R : zR} (hU : ∀ o j, U o → U (R o j)) (g : Nat → Nat → Int32 → zI → zR → zJ → Option (zI)) (hgf : ∀ (v0 : Nat) (v1 : Nat) (v2 : Int32) (I : zI) (J : zJ) (hv0 : U v0) (o : zI), g v0 v1 v2 I R J = some o → zw_FR U (o) I (J) J) (v0 : Nat) (v1 : Nat) (v2 : Int32) (v3 : Int32) (s0 : Int32) (I : zI) (J : zJ) (hv0 : U v0) (o : zI) (hf : j_X3_readSum_14 g v0 v1 v2 v3 s0 I R J = some o) : zw_FR U (o) (I) (J) (J) := by
  have hF : zw_FR U I I J J := zw_FR.rf
  unfold j_X3_readSum_14 at hf
  obtain ⟨q29, hq29, hf⟩ := zw_bdE hf
  have hF := (fr_s_X3_readSum_19_lp U hU g hgf v0 v1 v2 J hv0 _ _ _ hq29).tr hF
  cases hf
  exact hF
theorem fr_X3_readSum (U : Nat → Prop) {R : zR} (hU : ∀ o j, U o → U (R o j)) (g : Nat → Nat → Int32 → zI → zR → zJ → Option (zI)) (hgf : ∀ (v0 : Nat) (v1 : Nat) (v2 : Int32) (I : zI) (J : zJ) (hv0 : U v0) (o : zI), g v0 v1 v2 I R J = some o → zw_FR U (o) I (J) J) (v0 : Nat) (v1 : Nat) (v2 : Int32) (I : zI) (J : zJ) (hv0 : U v0) (o : zI) (hf : f_X3_readSum g v0 v1 v2 I R J = some o) : zw_FR U (o) (I) (J) (J) := by
  have hF : zw_FR U I I J J := zw_FR.rf
  unfold f_X3_readSum at hf
  obtain ⟨g1, hf⟩ := zw_gcE hf (by decide)
  rcases zw_ifE hf with ⟨c2, hf⟩ | ⟨c2, hf⟩
  ·
    exact (fr_j_X3_readSum_14 U hU g hgf v0 v1 v2 (-1) 0 I J hv0 _ hf).tr hF
  ·
    exact (fr_j_X3_readSum_14 U hU g hgf v0 v1 v2 (-1) 1 I J hv0 _ hf).tr hF
theorem fr_r_readSum (U : Nat → Prop) {R : zR} (hU : ∀ o j, U o → U (R o j)) : ∀ (n : Nat) (v0 : Nat) (v1 : Nat) (v2 : Int32) (I : zI) (J : zJ) (hv0 : U v0) (o : zI), r_X3_readSum n v0 v1 v2 I R J = some o → zw_FR U (o) I (J) J
  | 0, v0, v1, v2, I, J, hv0, o, hf => by cases hf
  | n + 1, v0, v1, v2, I, J, hv0, o, hf => fr_X3_readSum U hU (r_X3_readSum n) (fun v0 v1 v2 I J hv0 o h => fr_r_readSum U hU n v0 v1 v2 I J hv0 o h) v0 v1 v2 I J hv0 o hf
def zp_X11_cut_7 (I : zI) (J : zJ) (o : (Int32 × zI × zJ) ⊕ ((zI × zJ) ⊕ (zI × zJ))) : zI × zJ := match o with | .inl t => (t.2.1, t.2.2) | .inr r => (match r with | .inl r0 => (r0.1, r0.2) | .inr t0 => (t0.1, t0.2))
theorem fr_j_X11_cut_352_7 (U : Nat → Prop) {R : zR} (hU : ∀ o j, U o → U (R o j)) (v0 : Nat) (v1 : Int32) (I : zI) (J : zJ)  (o : (Int32 × zI × zJ) ⊕ ((zI × zJ) ⊕ (zI × zJ))) (hf : j_X11_cut_352_7 v0 v1 I R J = some o) : zw_FR U (zp_X11_cut_7 I J o).1 (I) (zp_X11_cut_7 I J o).2 (J) := by
  have hF : zw_FR U I I J J := zw_FR.rf
  unfold j_X11_cut_352_7 at hf
  cases hf
  exact hF
theorem fr_j_X11_cut_67_7 (U : Nat → Prop) {R : zR} (hU : ∀ o j, U o → U (R o j)) (v0 : Nat) (v1 : Int32) (I : zI) (J : zJ)  (o : (Int32 × zI × zJ) ⊕ ((zI × zJ) ⊕ (zI × zJ))) (hf : j_X11_cut_67_7 v0 v1 I R J = some o) : zw_FR U (zp_X11_cut_7 I J o).1 (I) (zp_X11_cut_7 I J o).2 (J) := by
  have hF : zw_FR U I I J J := zw_FR.rf
  unfold j_X11_cut_67_7 at hf
  obtain ⟨x8, ex8, hf⟩ := zw_letE hf
  exact (fr_j_X11_cut_352_7 U hU v0 x8 I J  _ hf).tr hF
def zp_X11_cut_269 (I : zI) (J : zJ) (o : (Int32 × Int32) ⊕ (Int32 × Int32)) : zI × zJ := match o with | .inl t => (I, J) | .inr r => (I, J)
theorem fr_j_X11_cut_305_269 (U : Nat → Prop) {R : zR} (hU : ∀ o j, U o → U (R o j)) (v0 : Nat) (v1 : Int32) (v3 : Int32) (v4 : Int32) (I : zI) (J : zJ)  (o : (Int32 × Int32) ⊕ (Int32 × Int32)) (hf : j_X11_cut_305_269 v0 v1 v3 v4 I R J = some o) : zw_FR U (zp_X11_cut_269 I J o).1 (I) (zp_X11_cut_269 I J o).2 (J) := by
  have hF : zw_FR U I I J J := zw_FR.rf
  unfold j_X11_cut_305_269 at hf
  obtain ⟨x25, ex25, hf⟩ := zw_letE hf
  cases hf
  exact hF
theorem fr_j_X11_cut_322_7 (U : Nat → Prop) {R : zR} (hU : ∀ o j, U o → U (R o j)) (v0 : Nat) (v1 : Int32) (v3 : Int32) (v4 : Int32) (s0 : Nat) (s1 : Int32) (I : zI) (J : zJ) (hs0 : U s0) (o : (Int32 × zI × zJ) ⊕ ((zI × zJ) ⊕ (zI × zJ))) (hf : j_X11_cut_322_7 v0 v1 v3 v4 s0 s1 I R J = some o) : zw_FR U (zp_X11_cut_7 I J o).1 (I) (zp_X11_cut_7 I J o).2 (J) := by
  have hF : zw_FR U I I J J := zw_FR.rf
  unfold j_X11_cut_322_7 at hf
  obtain ⟨g30, hf⟩ := zw_gcE hf (by decide)
  obtain ⟨q31, hq31, hf⟩ := zw_bdE hf
  have hF := (fr_X11_token U hU s0 s1 v1 v4 0 I J hs0 _ hq31).tr hF
  obtain ⟨x32, ex32, hf⟩ := zw_letE hf
  exact (fr_j_X11_cut_352_7 U hU v0 x32 q31.1 q31.2  _ hf).tr hF
def zp_X11_cut_204 (I : zI) (J : zJ) (o : (Int32) ⊕ (Int32)) : zI × zJ := match o with | .inl t => (I, J) | .inr r => (I, J)
theorem fr_j_X11_cut_242_7 (U : Nat → Prop) {R : zR} (hU : ∀ o j, U o → U (R o j)) (v0 : Nat) (v1 : Int32) (v3 : Int32) (s0 : Nat) (s1 : Int32) (I : zI) (J : zJ) (hs0 : U s0) (o : (Int32 × zI × zJ) ⊕ ((zI × zJ) ⊕ (zI × zJ))) (hf : j_X11_cut_242_7 v0 v1 v3 s0 s1 I R J = some o) : zw_FR U (zp_X11_cut_7 I J o).1 (I) (zp_X11_cut_7 I J o).2 (J) := by
  have hF : zw_FR U I I J J := zw_FR.rf
  unfold j_X11_cut_242_7 at hf
  obtain ⟨g40, hf⟩ := zw_gcE hf (by decide)
  obtain ⟨q41, hq41, hf⟩ := zw_bdE hf
  have hF := (fr_X11_token U hU s0 s1 v1 v3 0 I J hs0 _ hq41).tr hF
  obtain ⟨x42, ex42, hf⟩ := zw_letE hf
  exact (fr_j_X11_cut_352_7 U hU v0 x42 q41.1 q41.2  _ hf).tr hF
theorem fr_j_X11_cut_236_7 (U : Nat → Prop) {R : zR} (hU : ∀ o j, U o → U (R o j)) (v0 : Nat) (v1 : Int32) (v3 : Int32) (s0 : Nat) (I : zI) (J : zJ) (hs0 : U s0) (o : (Int32 × zI × zJ) ⊕ ((zI × zJ) ⊕ (zI × zJ))) (hf : j_X11_cut_236_7 v0 v1 v3 s0 I R J = some o) : zw_FR U (zp_X11_cut_7 I J o).1 (I) (zp_X11_cut_7 I J o).2 (J) := by
  have hF : zw_FR U I I J J := zw_FR.rf
  unfold j_X11_cut_236_7 at hf
  exact (fr_j_X11_cut_242_7 U hU v0 v1 v3 s0 3 I J hs0 _ hf).tr hF
def zp_X11_cut_85 (I : zI) (J : zJ) (o : (Int32 × Int64) ⊕ (Int32 × Int64)) : zI × zJ := match o with | .inl t => (I, J) | .inr r => (I, J)
theorem fr_j_X11_cut_118_85 (U : Nat → Prop) {R : zR} (hU : ∀ o j, U o → U (R o j)) (v0 : Nat) (v1 : Int32) (v3 : Int32) (v4 : Int64) (I : zI) (J : zJ)  (o : (Int32 × Int64) ⊕ (Int32 × Int64)) (hf : j_X11_cut_118_85 v0 v1 v3 v4 I R J = some o) : zw_FR U (zp_X11_cut_85 I J o).1 (I) (zp_X11_cut_85 I J o).2 (J) := by
  have hF : zw_FR U I I J J := zw_FR.rf
  unfold j_X11_cut_118_85 at hf
  obtain ⟨x49, ex49, hf⟩ := zw_letE hf
  cases hf
  exact hF
theorem fr_j_X11_cut_179_7 (U : Nat → Prop) {R : zR} (hU : ∀ o j, U o → U (R o j)) (v0 : Nat) (v1 : Int32) (v3 : Int32) (v4 : Int64) (v6 : Int32) (I : zI) (J : zJ) (hv0 : U v0) (o : (Int32 × zI × zJ) ⊕ ((zI × zJ) ⊕ (zI × zJ))) (hf : j_X11_cut_179_7 v0 v1 v3 v4 v6 I R J = some o) : zw_FR U (zp_X11_cut_7 I J o).1 (I) (zp_X11_cut_7 I J o).2 (J) := by
  have hF : zw_FR U I I J J := zw_FR.rf
  unfold j_X11_cut_179_7 at hf
  obtain ⟨g55, hf⟩ := zw_gcE hf (by decide)
  obtain ⟨q56, hq56, hf⟩ := zw_bdE hf
  have hF := (fr_X11_token U hU v0 v6 v1 0 v4 I J hv0 _ hq56).tr hF
  obtain ⟨x57, ex57, hf⟩ := zw_letE hf
  exact (fr_j_X11_cut_352_7 U hU v0 x57 q56.1 q56.2  _ hf).tr hF
def zp_X11_cut_146 (I : zI) (J : zJ) (o : (Int32 × Int32) ⊕ (Int32)) : zI × zJ := match o with | .inl t => (I, J) | .inr r => (I, J)
theorem fr_j_X11_cut_173_146 (U : Nat → Prop) {R : zR} (hU : ∀ o j, U o → U (R o j)) (v0 : Nat) (v1 : Int32) (v3 : Int32) (v4 : Int64) (v6 : Int32) (v7 : Int32) (I : zI) (J : zJ)  (o : (Int32 × Int32) ⊕ (Int32)) (hf : j_X11_cut_173_146 v0 v1 v3 v4 v6 v7 I R J = some o) : zw_FR U (zp_X11_cut_146 I J o).1 (I) (zp_X11_cut_146 I J o).2 (J) := by
  have hF : zw_FR U I I J J := zw_FR.rf
  unfold j_X11_cut_173_146 at hf
  obtain ⟨x63, ex63, hf⟩ := zw_letE hf
  cases hf
  exact hF
theorem fr_j_X11_cut_135_7 (U : Nat → Prop) {R : zR} (hU : ∀ o j, U o → U (R o j)) (v0 : Nat) (v1 : Int32) (v3 : Int32) (v4 : Int64) (s0 : Int32) (I : zI) (J : zJ) (hv0 : U v0) (o : (Int32 × zI × zJ) ⊕ ((zI × zJ) ⊕ (zI × zJ))) (hf : j_X11_cut_135_7 v0 v1 v3 v4 s0 I R J = some o) : zw_FR U (zp_X11_cut_7 I J o).1 (I) (zp_X11_cut_7 I J o).2 (J) := by
  have hF : zw_FR U I I J J := zw_FR.rf
  unfold j_X11_cut_135_7 at hf
  rcases zw_ifE hf with ⟨c54, hf⟩ | ⟨c54, hf⟩
  ·
    exact (fr_j_X11_cut_179_7 U hU v0 v1 v3 v4 s0 I J hv0 _ hf).tr hF
  ·
    obtain ⟨q65, hq65, hf⟩ := zw_bdE hf
    exact (fr_j_X11_cut_179_7 U hU v0 v1 v3 v4 q65 I J hv0 _ hf).tr hF
theorem fr_s_X11_cut_7 (U : Nat → Prop) {R : zR} (hU : ∀ o j, U o → U (R o j)) (v0 : Nat)  (hv0 : U v0) (s : Int32 × zI × zJ) (o : (Int32 × zI × zJ) ⊕ ((zI × zJ) ⊕ (zI × zJ))) (hf : s_X11_cut_7 v0 R s = some o) : zw_FR U (zp_X11_cut_7 s.2.1 s.2.2 o).1 (s.2.1) (zp_X11_cut_7 s.2.1 s.2.2 o).2 (s.2.2) := by
  have hF : zw_FR U (s.2.1) (s.2.1) (s.2.2) (s.2.2) := zw_FR.rf
  unfold s_X11_cut_7 at hf
  obtain ⟨g3, hf⟩ := zw_gcE hf (by decide)
  rcases zw_ifE hf with ⟨c4, hf⟩ | ⟨c4, hf⟩
  ·
    cases hf
    exact hF
  ·
    obtain ⟨q5, hq5, hf⟩ := zw_bdE hf
    rcases zw_ifE hf with ⟨c6, hf⟩ | ⟨c6, hf⟩
    ·
      rcases zw_ifE hf with ⟨c7, hf⟩ | ⟨c7, hf⟩
      ·
        exact (fr_j_X11_cut_67_7 U hU v0 s.1 s.2.1 s.2.2  _ hf).tr hF
      ·
        rcases zw_ifE hf with ⟨c9, hf⟩ | ⟨c9, hf⟩
        ·
          exact (fr_j_X11_cut_67_7 U hU v0 s.1 s.2.1 s.2.2  _ hf).tr hF
        ·
          rcases zw_ifE hf with ⟨c10, hf⟩ | ⟨c10, hf⟩
          ·
            exact (fr_j_X11_cut_67_7 U hU v0 s.1 s.2.1 s.2.2  _ hf).tr hF
          ·
            rcases zw_ifE hf with ⟨c11, hf⟩ | ⟨c11, hf⟩
            ·
              obtain ⟨q12, hq12, hf⟩ := zw_bdE hf
              rcases zw_ifE hf with ⟨c13, hf⟩ | ⟨c13, hf⟩
              ·
                rcases zw_ifE hf with ⟨c14, hf⟩ | ⟨c14, hf⟩
                ·
                  obtain ⟨q15, hq15, hf⟩ := zw_bdE hf
                  rcases zw_ifE hf with ⟨c16, hf⟩ | ⟨c16, hf⟩
                  ·
                    obtain ⟨q17, hq17, hf⟩ := zw_bdE hf
                    obtain ⟨q18, hq18, hf⟩ := zw_bdE hf
                    have hF := (fr_X11_sign U hU v0 s.1 q5 q17 s.2.1 s.2.2 hv0 _ hq18).tr hF
                    obtain ⟨x19, ex19, hf⟩ := zw_letE hf
                    exact (fr_j_X11_cut_352_7 U hU v0 x19 q18.2.1 q18.2.2  _ hf).tr hF
                  ·
                    obtain ⟨q28, hq28, hf⟩ := zw_bdE hf
                    rcases zw_ifE hf with ⟨c29, hf⟩ | ⟨c29, hf⟩
                    ·
                      exact (fr_j_X11_cut_322_7 U hU v0 s.1 q28.1 q28.2 v0 2 s.2.1 s.2.2 hv0 _ hf).tr hF
                    ·
                      exact (fr_j_X11_cut_322_7 U hU v0 s.1 q28.1 q28.2 v0 3 s.2.1 s.2.2 hv0 _ hf).tr hF
                ·
                  obtain ⟨q38, hq38, hf⟩ := zw_bdE hf
                  rcases zw_ifE hf with ⟨c39, hf⟩ | ⟨c39, hf⟩
                  ·
                    exact (fr_j_X11_cut_236_7 U hU v0 s.1 q38 v0 s.2.1 s.2.2 hv0 _ hf).tr hF
                  ·
                    rcases zw_ifE hf with ⟨c43, hf⟩ | ⟨c43, hf⟩
                    ·
                      exact (fr_j_X11_cut_242_7 U hU v0 s.1 q38 v0 17 s.2.1 s.2.2 hv0 _ hf).tr hF
                    ·
                      exact (fr_j_X11_cut_236_7 U hU v0 s.1 q38 v0 s.2.1 s.2.2 hv0 _ hf).tr hF
              ·
                obtain ⟨q52, hq52, hf⟩ := zw_bdE hf
                rcases zw_ifE hf with ⟨c53, hf⟩ | ⟨c53, hf⟩
                ·
                  exact (fr_j_X11_cut_135_7 U hU v0 s.1 q52.1 q52.2 1 s.2.1 s.2.2 hv0 _ hf).tr hF
                ·
                  exact (fr_j_X11_cut_135_7 U hU v0 s.1 q52.1 q52.2 3 s.2.1 s.2.2 hv0 _ hf).tr hF
            ·
              exact (fr_j_X11_cut_67_7 U hU v0 s.1 s.2.1 s.2.2  _ hf).tr hF
    ·
      cases hf
      exact hF
theorem fr_s_X11_cut_7_lp (U : Nat → Prop) {R : zR} (hU : ∀ o j, U o → U (R o j)) (v0 : Nat)  (hv0 : U v0) (n : Nat) (s : Int32 × zI × zJ) (r : (zI × zJ) ⊕ (zI × zJ)) (h : zw_it (s_X11_cut_7 v0 R) n s = some r) : zw_FR U (zp_X11_cut_7 (s.2.1) (s.2.2) (.inr r)).1 (s.2.1) (zp_X11_cut_7 (s.2.1) (s.2.2) (.inr r)).2 (s.2.2) :=
  zw_itF (A := fun t t0 : Int32 × zI × zJ => zw_FR U (t.2.1) (t0.2.1) (t.2.2) (t0.2.2)) (Q := fun (r : (zI × zJ) ⊕ (zI × zJ)) (t : Int32 × zI × zJ) => zw_FR U (zp_X11_cut_7 (t.2.1) (t.2.2) (.inr r)).1 (t.2.1) (zp_X11_cut_7 (t.2.1) (t.2.2) (.inr r)).2 (t.2.2)) (fun s o h1 => by
    have h2 := fr_s_X11_cut_7 U hU v0 hv0 s o h1
    cases o with
    | inl t => exact h2
    | inr r => exact h2) (fun h1 h2 => zw_FR.tr h2 h1) n s r h
theorem fr_X11_cut (U : Nat → Prop) {R : zR} (hU : ∀ o j, U o → U (R o j)) (v0 : Nat) (I : zI) (J : zJ) (hv0 : U v0) (o : zI × zJ) (hf : f_X11_cut v0 I R J = some o) : zw_FR U (o.1) (I) (o.2) (J) := by
  have hF : zw_FR U I I J J := zw_FR.rf
  unfold f_X11_cut at hf
  obtain ⟨g1, hf⟩ := zw_gcE hf (by decide)
  obtain ⟨I2, eI2, hf⟩ := zw_letE hf
  have hF := hF.wI eI2 hv0
  obtain ⟨q66, hq66, hf⟩ := zw_bdE hf
  have hF := (fr_s_X11_cut_7_lp U hU v0 hv0 _ _ _ hq66).tr hF
  rcases q66 with a67 | a68
  ·
    cases hf
    exact hF
  ·
    obtain ⟨q69, hq69, hf⟩ := zw_bdE hf
    have hF := (fr_X11_token U hU v0 0 (a68.1 v0 4) 0 0 a68.1 a68.2 hv0 _ hq69).tr hF
    cases hf
    exact hF
def zp_X11_follows_19 (I : zI) (J : zJ) (o : (Int32 × Int32 × Int32 × Int32 × Int32 × zI) ⊕ (Int32 × Int32 × zI)) : zI × zJ := match o with | .inl t => (t.2.2.2.2.2, J) | .inr r => (r.2.2, J)
theorem fr_j_X11_follows_175_19 (U : Nat → Prop) {R : zR} (hU : ∀ o j, U o → U (R o j)) (v0 : Nat) (v1 : Int32) (v2 : Int32) (v3 : Int32) (v8 : Int32) (v9 : Int32) (v10 : Int32) (v11 : Int32) (v12 : Int32) (I : zI) (J : zJ) (hv0 : U v0) (o : (Int32 × Int32 × Int32 × Int32 × Int32 × zI) ⊕ (Int32 × Int32 × zI)) (hf : j_X11_follows_175_19 v0 v1 v2 v3 v8 v9 v10 v11 v12 I R = some o) : zw_FR U (zp_X11_follows_19 I J o).1 (I) (zp_X11_follows_19 I J o).2 (J) := by
  have hF : zw_FR U I I J J := zw_FR.rf
  unfold j_X11_follows_175_19 at hf
  obtain ⟨q11, hq11, hf⟩ := zw_bdE hf
  obtain ⟨x12, ex12, hf⟩ := zw_letE hf
  obtain ⟨q13, hq13, hf⟩ := zw_bdE hf
  obtain ⟨x14, ex14, hf⟩ := zw_letE hf
  obtain ⟨g15, hf⟩ := zw_gcE hf (by decide)
  obtain ⟨q16, hq16, hf⟩ := zw_bdE hf
  obtain ⟨q17, hq17, hf⟩ := zw_bdE hf
  rcases zw_ifE hf with ⟨c18, hf⟩ | ⟨c18, hf⟩
  ·
    obtain ⟨g19, hf⟩ := zw_gcE hf (by decide)
    obtain ⟨i20, hf⟩ := zw_inE hf
    obtain ⟨x21, ex21, hf⟩ := zw_letE hf
    obtain ⟨q22, hq22, hf⟩ := zw_bdE hf
    have hF := (fr_X11_goesOut U hU v0 v10 v8 x21 I J hv0 _ hq22).tr hF
    obtain ⟨x23, ex23, hf⟩ := zw_letE hf
    obtain ⟨x24, ex24, hf⟩ := zw_letE hf
    cases hf
    exact hF
  ·
    cases hf
    exact hF
theorem fr_j_X11_follows_173_19 (U : Nat → Prop) {R : zR} (hU : ∀ o j, U o → U (R o j)) (v0 : Nat) (v1 : Int32) (v2 : Int32) (v3 : Int32) (v8 : Int32) (v9 : Int32) (v11 : Int32) (v12 : Int32) (s0 : Int32) (I : zI) (J : zJ) (hv0 : U v0) (o : (Int32 × Int32 × Int32 × Int32 × Int32 × zI) ⊕ (Int32 × Int32 × zI)) (hf : j_X11_follows_173_19 v0 v1 v2 v3 v8 v9 v11 v12 s0 I R = some o) : zw_FR U (zp_X11_follows_19 I J o).1 (I) (zp_X11_follows_19 I J o).2 (J) := by
  have hF : zw_FR U I I J J := zw_FR.rf
  unfold j_X11_follows_173_19 at hf
  exact (fr_j_X11_follows_175_19 U hU v0 v1 v2 v3 v8 v9 s0 v11 v12 I J hv0 _ hf).tr hF
theorem fr_j_X11_follows_111_19 (U : Nat → Prop) {R : zR} (hU : ∀ o j, U o → U (R o j)) (v0 : Nat) (v1 : Int32) (v2 : Int32) (v3 : Int32) (v8 : Int32) (v9 : Int32) (v10 : Int32) (v11 : Int32) (v12 : Int32) (v13 : Int32) (I : zI) (J : zJ) (hv0 : U v0) (o : (Int32 × Int32 × Int32 × Int32 × Int32 × zI) ⊕ (Int32 × Int32 × zI)) (hf : j_X11_follows_111_19 v0 v1 v2 v3 v8 v9 v10 v11 v12 v13 I R = some o) : zw_FR U (zp_X11_follows_19 I J o).1 (I) (zp_X11_follows_19 I J o).2 (J) := by
  have hF : zw_FR U I I J J := zw_FR.rf
  unfold j_X11_follows_111_19 at hf
  rcases zw_ifE hf with ⟨c10, hf⟩ | ⟨c10, hf⟩
  ·
    exact (fr_j_X11_follows_175_19 U hU v0 v1 v2 v3 v8 v9 v10 v11 v12 I J hv0 _ hf).tr hF
  ·
    obtain ⟨g25, hf⟩ := zw_gcE hf (by decide)
    obtain ⟨g26, hf⟩ := zw_gcE hf (by decide)
    obtain ⟨i27, hf⟩ := zw_inE hf
    obtain ⟨x28, ex28, hf⟩ := zw_letE hf
    obtain ⟨q29, hq29, hf⟩ := zw_bdE hf
    have hF := (fr_X11_goesOut U hU v0 v10 v8 x28 I J hv0 _ hq29).tr hF
    obtain ⟨x30, ex30, hf⟩ := zw_letE hf
    rcases zw_ifE hf with ⟨c31, hf⟩ | ⟨c31, hf⟩
    ·
      obtain ⟨q32, hq32, hf⟩ := zw_bdE hf
      exact (fr_j_X11_follows_173_19 U hU v0 v1 v2 v3 v8 v9 x30 v12 q32 q29 J hv0 _ hf).tr hF
    ·
      obtain ⟨q33, hq33, hf⟩ := zw_bdE hf
      exact (fr_j_X11_follows_173_19 U hU v0 v1 v2 v3 v8 v9 x30 v12 q33 q29 J hv0 _ hf).tr hF
theorem fr_s_X11_follows_19 (U : Nat → Prop) {R : zR} (hU : ∀ o j, U o → U (R o j)) (v0 : Nat) (v1 : Int32) (v2 : Int32) (v3 : Int32) (J : zJ) (hv0 : U v0) (s : Int32 × Int32 × Int32 × Int32 × Int32 × zI) (o : (Int32 × Int32 × Int32 × Int32 × Int32 × zI) ⊕ (Int32 × Int32 × zI)) (hf : s_X11_follows_19 v0 v1 v2 v3 R s = some o) : zw_FR U (zp_X11_follows_19 s.2.2.2.2.2 J o).1 (s.2.2.2.2.2) (zp_X11_follows_19 s.2.2.2.2.2 J o).2 (J) := by
  have hF : zw_FR U (s.2.2.2.2.2) (s.2.2.2.2.2) (J) (J) := zw_FR.rf
  unfold s_X11_follows_19 at hf
  rcases zw_ifE hf with ⟨c1, hf⟩ | ⟨c1, hf⟩
  ·
    cases hf
    exact hF
  ·
    rcases zw_ifE hf with ⟨c2, hf⟩ | ⟨c2, hf⟩
    ·
      cases hf
      exact hF
    ·
      obtain ⟨g3, hf⟩ := zw_gcE hf (by decide)
      obtain ⟨q4, hq4, hf⟩ := zw_bdE hf
      obtain ⟨g5, hf⟩ := zw_gcE hf (by decide)
      obtain ⟨i6, hf⟩ := zw_inE hf
      obtain ⟨I7, eI7, hf⟩ := zw_letE hf
      have hF := hF.wI eI7 (hU _ _ hv0)
      obtain ⟨x8, ex8, hf⟩ := zw_letE hf
      rcases zw_ifE hf with ⟨c9, hf⟩ | ⟨c9, hf⟩
      ·
        exact (fr_j_X11_follows_111_19 U hU v0 v1 v2 v3 s.1 s.2.1 s.2.2.1 s.2.2.2.1 x8 q4 I7 J hv0 _ hf).tr hF
      ·
        obtain ⟨g34, hf⟩ := zw_gcE hf (by decide)
        obtain ⟨i35, hf⟩ := zw_inE hf
        obtain ⟨x36, ex36, hf⟩ := zw_letE hf
        obtain ⟨I37, eI37, hf⟩ := zw_letE hf
        have hF := hF.wI eI37 hv0
        obtain ⟨x38, ex38, hf⟩ := zw_letE hf
        obtain ⟨I39, eI39, hf⟩ := zw_letE hf
        have hF := hF.wI eI39 hv0
        exact (fr_j_X11_follows_111_19 U hU v0 v1 v2 v3 s.1 s.2.1 s.2.2.1 x38 x8 q4 I39 J hv0 _ hf).tr hF
theorem fr_s_X11_follows_19_lp (U : Nat → Prop) {R : zR} (hU : ∀ o j, U o → U (R o j)) (v0 : Nat) (v1 : Int32) (v2 : Int32) (v3 : Int32) (J : zJ) (hv0 : U v0) (n : Nat) (s : Int32 × Int32 × Int32 × Int32 × Int32 × zI) (r : Int32 × Int32 × zI) (h : zw_it (s_X11_follows_19 v0 v1 v2 v3 R) n s = some r) : zw_FR U (zp_X11_follows_19 (s.2.2.2.2.2) (J) (.inr r)).1 (s.2.2.2.2.2) (zp_X11_follows_19 (s.2.2.2.2.2) (J) (.inr r)).2 (J) :=
  zw_itF (A := fun t t0 : Int32 × Int32 × Int32 × Int32 × Int32 × zI => zw_FR U (t.2.2.2.2.2) (t0.2.2.2.2.2) (J) (J)) (Q := fun (r : Int32 × Int32 × zI) (t : Int32 × Int32 × Int32 × Int32 × Int32 × zI) => zw_FR U (zp_X11_follows_19 (t.2.2.2.2.2) (J) (.inr r)).1 (t.2.2.2.2.2) (zp_X11_follows_19 (t.2.2.2.2.2) (J) (.inr r)).2 (J)) (fun s o h1 => by
    have h2 := fr_s_X11_follows_19 U hU v0 v1 v2 v3 J hv0 s o h1
    cases o with
    | inl t => exact h2
    | inr r => exact h2) (fun h1 h2 => zw_FR.tr h2 h1) n s r h
theorem fr_j_X11_follows_274 (U : Nat → Prop) {R : zR} (hU : ∀ o j, U o → U (R o j)) (v0 : Nat) (v11 : Int32) (v12 : Int32) (I : zI) (J : zJ) (hv0 : U v0) (o : zI) (hf : j_X11_follows_274 v0 v11 v12 I R = some o) : zw_FR U (o) (I) (J) (J) := by
  have hF : zw_FR U I I J J := zw_FR.rf
  unfold j_X11_follows_274 at hf
  obtain ⟨g41, hf⟩ := zw_gcE hf (by decide)
  obtain ⟨I42, eI42, hf⟩ := zw_letE hf
  have hF := hF.wI eI42 hv0
  obtain ⟨I43, eI43, hf⟩ := zw_letE hf
  have hF := hF.wI eI43 hv0
  cases hf
  exact hF
theorem fr_X11_follows (U : Nat → Prop) {R : zR} (hU : ∀ o j, U o → U (R o j)) (v0 : Nat) (v1 : Int32) (v2 : Int32) (v3 : Int32) (v4 : Int32) (v5 : Int32) (v6 : Int32) (v7 : Int32) (I : zI) (J : zJ) (hv0 : U v0) (o : zI) (hf : f_X11_follows v0 v1 v2 v3 v4 v5 v6 v7 I R = some o) : zw_FR U (o) (I) (J) (J) := by
  have hF : zw_FR U I I J J := zw_FR.rf
  unfold f_X11_follows at hf
  obtain ⟨q40, hq40, hf⟩ := zw_bdE hf
  have hF := (fr_s_X11_follows_19_lp U hU v0 v1 v2 v3 J hv0 _ _ _ hq40).tr hF
  exact (fr_j_X11_follows_274 U hU v0 q40.1 q40.2.1 q40.2.2 J hv0 _ hf).tr hF
