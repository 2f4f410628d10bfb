def zp_X11_tellRule_77 (I : zI) (J : zJ) (o : (Int32 × Int32 × zI) ⊕ (zI)) : zI × zJ := match o with | .inl t => (t.2.2, J) | .inr r => (r, J)
theorem fr_j_X11_tellRule_121_77 (U : Nat → Prop) {R : zR} (hU : ∀ o j, U o → U (R o j)) (v0 : Nat) (v1 : Int32) (v2 : Int32) (v4 : Int32) (s0 : Int32) (I : zI) (J : zJ) (hv0 : U v0) (o : (Int32 × Int32 × zI) ⊕ (zI)) (hf : j_X11_tellRule_121_77 v0 v1 v2 v4 s0 I R J = some o) : zw_FR U (zp_X11_tellRule_77 I J o).1 (I) (zp_X11_tellRule_77 I J o).2 (J) := by
  have hF : zw_FR U I I J J := zw_FR.rf
  unfold j_X11_tellRule_121_77 at hf
  rcases zw_ifE hf with ⟨c24, hf⟩ | ⟨c24, hf⟩
  ·
    cases hf
    exact hF
  ·
    obtain ⟨g25, hf⟩ := zw_gcE hf (by decide)
    obtain ⟨q26, hq26, hf⟩ := zw_bdE hf
    have hF := (fr_X11_goesOn U hU v0 I J hv0 _ hq26).tr hF
    cases hf
    exact hF
theorem fr_j_X11_tellRule_116_77 (U : Nat → Prop) {R : zR} (hU : ∀ o j, U o → U (R o j)) (v0 : Nat) (v1 : Int32) (v2 : Int32) (v4 : Int32) (I : zI) (J : zJ) (hv0 : U v0) (o : (Int32 × Int32 × zI) ⊕ (zI)) (hf : j_X11_tellRule_116_77 v0 v1 v2 v4 I R J = some o) : zw_FR U (zp_X11_tellRule_77 I J o).1 (I) (zp_X11_tellRule_77 I J o).2 (J) := by
  have hF : zw_FR U I I J J := zw_FR.rf
  unfold j_X11_tellRule_116_77 at hf
  exact (fr_j_X11_tellRule_121_77 U hU v0 v1 v2 v4 1 I J hv0 _ hf).tr hF
theorem fr_s_X11_tellRule_77 (U : Nat → Prop) {R : zR} (hU : ∀ o j, U o → U (R o j)) (v0 : Nat) (v1 : Int32) (v2 : Int32) (J : zJ) (hv0 : U v0) (s : Int32 × Int32 × zI) (o : (Int32 × Int32 × zI) ⊕ (zI)) (hf : s_X11_tellRule_77 v0 v1 v2 R J s = some o) : zw_FR U (zp_X11_tellRule_77 s.2.2 J o).1 (s.2.2) (zp_X11_tellRule_77 s.2.2 J o).2 (J) := by
  have hF : zw_FR U (s.2.2) (s.2.2) (J) (J) := zw_FR.rf
  unfold s_X11_tellRule_77 at hf
  rcases zw_ifE hf with ⟨c18, hf⟩ | ⟨c18, hf⟩
  ·
    cases hf
    exact hF
  ·
    obtain ⟨g19, hf⟩ := zw_gcE hf (by decide)
    rcases zw_ifE hf with ⟨c20, hf⟩ | ⟨c20, hf⟩
    ·
      cases hf
      exact hF
    ·
      obtain ⟨q21, hq21, hf⟩ := zw_bdE hf
      have hF := (fr_X11_literal U hU v0 s.2.1 s.2.2 J hv0 _ hq21).tr hF
      obtain ⟨q22, hq22, hf⟩ := zw_bdE hf
      rcases zw_ifE hf with ⟨c23, hf⟩ | ⟨c23, hf⟩
      ·
        exact (fr_j_X11_tellRule_116_77 U hU v0 v1 v2 q22 q21 J hv0 _ hf).tr hF
      ·
        obtain ⟨q27, hq27, hf⟩ := zw_bdE hf
        rcases zw_ifE hf with ⟨c28, hf⟩ | ⟨c28, hf⟩
        ·
          exact (fr_j_X11_tellRule_121_77 U hU v0 v1 v2 q22 0 q21 J hv0 _ hf).tr hF
        ·
          exact (fr_j_X11_tellRule_116_77 U hU v0 v1 v2 q22 q21 J hv0 _ hf).tr hF
theorem fr_s_X11_tellRule_77_lp (U : Nat → Prop) {R : zR} (hU : ∀ o j, U o → U (R o j)) (v0 : Nat) (v1 : Int32) (v2 : Int32) (J : zJ) (hv0 : U v0) (n : Nat) (s : Int32 × Int32 × zI) (r : zI) (h : zw_it (s_X11_tellRule_77 v0 v1 v2 R J) n s = some r) : zw_FR U (zp_X11_tellRule_77 (s.2.2) (J) (.inr r)).1 (s.2.2) (zp_X11_tellRule_77 (s.2.2) (J) (.inr r)).2 (J) :=
  zw_itF (A := fun t t0 : Int32 × Int32 × zI => zw_FR U (t.2.2) (t0.2.2) (J) (J)) (Q := fun (r : zI) (t : Int32 × Int32 × zI) => zw_FR U (zp_X11_tellRule_77 (t.2.2) (J) (.inr r)).1 (t.2.2) (zp_X11_tellRule_77 (t.2.2) (J) (.inr r)).2 (J)) (fun s o h1 => by
    have h2 := fr_s_X11_tellRule_77 U hU v0 v1 v2 J hv0 s o h1
    cases o with
    | inl t => exact h2
    | inr r => exact h2) (fun h1 h2 => zw_FR.tr h2 h1) n s r h
theorem fr_j_X11_tellRule_133 (U : Nat → Prop) {R : zR} (hU : ∀ o j, U o → U (R o j)) (v0 : Nat) (v1 : Int32) (v2 : Int32) (I : zI) (J : zJ) (hv0 : U v0) (o : zI × zJ) (hf : j_X11_tellRule_133 v0 v1 v2 I R J = some o) : zw_FR U (o.1) (I) (o.2) (J) := by
  have hF : zw_FR U I I J J := zw_FR.rf
  unfold j_X11_tellRule_133 at hf
  obtain ⟨g30, hf⟩ := zw_gcE hf (by decide)
  obtain ⟨q31, hq31, hf⟩ := zw_bdE hf
  have hF := (fr_X11_must U hU v0 4 I J hv0 _ hq31).tr hF
  obtain ⟨g32, hf⟩ := zw_gcE hf (by decide)
  obtain ⟨i33, hf⟩ := zw_inE hf
  obtain ⟨I34, eI34, hf⟩ := zw_letE hf
  have hF := hF.wI eI34 (hU _ _ hv0)
  rcases zw_ifE hf with ⟨c35, hf⟩ | ⟨c35, hf⟩
  ·
    rcases zw_ifE hf with ⟨c36, hf⟩ | ⟨c36, hf⟩
    ·
      obtain ⟨g37, hf⟩ := zw_gcE hf (by decide)
      obtain ⟨i38, hf⟩ := zw_inE hf
      obtain ⟨i39, hf⟩ := zw_inE hf
      obtain ⟨I40, eI40, hf⟩ := zw_letE hf
      have hF := hF.wI eI40 (hU _ _ hv0)
      cases hf
      exact hF
    ·
      obtain ⟨g41, hf⟩ := zw_gcE hf (by decide)
      obtain ⟨i42, hf⟩ := zw_inE hf
      obtain ⟨i43, hf⟩ := zw_inE hf
      obtain ⟨I44, eI44, hf⟩ := zw_letE hf
      have hF := hF.wI eI44 (hU _ _ hv0)
      cases hf
      exact hF
  ·
    cases hf
    exact hF
theorem fr_j_X11_tellRule_74 (U : Nat → Prop) {R : zR} (hU : ∀ o j, U o → U (R o j)) (v0 : Nat) (v1 : Int32) (v2 : Int32) (v3 : Int32) (I : zI) (J : zJ) (hv0 : U v0) (o : zI × zJ) (hf : j_X11_tellRule_74 v0 v1 v2 v3 I R J = some o) : zw_FR U (o.1) (I) (o.2) (J) := by
  have hF : zw_FR U I I J J := zw_FR.rf
  unfold j_X11_tellRule_74 at hf
  obtain ⟨q29, hq29, hf⟩ := zw_bdE hf
  have hF := (fr_s_X11_tellRule_77_lp U hU v0 v1 v2 J hv0 _ _ _ hq29).tr hF
  exact (fr_j_X11_tellRule_133 U hU v0 v1 v2 q29 J hv0 _ hf).tr hF
theorem fr_j_X11_tellRule_26 (U : Nat → Prop) {R : zR} (hU : ∀ o j, U o → U (R o j)) (v0 : Nat) (v1 : Int32) (v2 : Int32) (I : zI) (J : zJ) (hv0 : U v0) (o : zI × zJ) (hf : j_X11_tellRule_26 v0 v1 v2 I R J = some o) : zw_FR U (o.1) (I) (o.2) (J) := by
  have hF : zw_FR U I I J J := zw_FR.rf
  unfold j_X11_tellRule_26 at hf
  obtain ⟨g8, hf⟩ := zw_gcE hf (by decide)
  obtain ⟨g9, hf⟩ := zw_gcE hf (by decide)
  obtain ⟨i10, hf⟩ := zw_inE hf
  obtain ⟨I11, eI11, hf⟩ := zw_letE hf
  have hF := hF.wI eI11 (hU _ _ hv0)
  obtain ⟨g12, hf⟩ := zw_gcE hf (by decide)
  obtain ⟨i13, hf⟩ := zw_inE hf
  obtain ⟨I14, eI14, hf⟩ := zw_letE hf
  have hF := hF.wI eI14 (hU _ _ hv0)
  obtain ⟨q15, hq15, hf⟩ := zw_bdE hf
  rcases zw_ifE hf with ⟨c16, hf⟩ | ⟨c16, hf⟩
  ·
    rcases zw_ifE hf with ⟨c17, hf⟩ | ⟨c17, hf⟩
    ·
      exact (fr_j_X11_tellRule_74 U hU v0 v1 v2 q15 I14 J hv0 _ hf).tr hF
    ·
      obtain ⟨q45, hq45, hf⟩ := zw_bdE hf
      have hF := (fr_X11_goesOn U hU v0 I14 J hv0 _ hq45).tr hF
      exact (fr_j_X11_tellRule_74 U hU v0 v1 v2 q15 q45 J hv0 _ hf).tr hF
  ·
    obtain ⟨q46, hq46, hf⟩ := zw_bdE hf
    have hF := (fr_X11_must U hU v0 26 I14 J hv0 _ hq46).tr hF
    exact (fr_j_X11_tellRule_74 U hU v0 v1 v2 q15 q46 J hv0 _ hf).tr hF
theorem fr_X11_tellRule (U : Nat → Prop) {R : zR} (hU : ∀ o j, U o → U (R o j)) (v0 : Nat) (v1 : Int32) (v2 : Int32) (I : zI) (J : zJ) (hv0 : U v0) (o : zI × zJ) (hf : f_X11_tellRule v0 v1 v2 I R J = some o) : zw_FR U (o.1) (I) (o.2) (J) := by
  have hF : zw_FR U I I J J := zw_FR.rf
  unfold f_X11_tellRule at hf
  obtain ⟨g1, hf⟩ := zw_gcE hf (by decide)
  obtain ⟨q2, hq2, hf⟩ := zw_bdE hf
  have hF := (fr_X11_goesOn U hU v0 I J hv0 _ hq2).tr hF
  obtain ⟨q3, hq3, hf⟩ := zw_bdE hf
  have hF := (fr_X11_named U hU v0 q2 J hv0 _ hq3).tr hF
  obtain ⟨g4, hf⟩ := zw_gcE hf (by decide)
  obtain ⟨i5, hf⟩ := zw_inE hf
  obtain ⟨I6, eI6, hf⟩ := zw_letE hf
  have hF := hF.wI eI6 (hU _ _ hv0)
  rcases zw_ifE hf with ⟨c7, hf⟩ | ⟨c7, hf⟩
  ·
    exact (fr_j_X11_tellRule_26 U hU v0 v1 v2 I6 q3.2 hv0 _ hf).tr hF
  ·
    obtain ⟨q47, hq47, hf⟩ := zw_bdE hf
    have hF := (fr_X11_expression U hU v0 I6 q3.2 hv0 _ hq47).tr hF
    exact (fr_j_X11_tellRule_26 U hU v0 v1 v2 q47 q3.2 hv0 _ hf).tr hF
theorem fr_X10_barred (U : Nat → Prop) {R : zR} (hU : ∀ o j, U o → U (R o j)) (v0 : Nat) (v1 : Int32) (v2 : Int32) (I : zI) (J : zJ) (hv0 : U v0) (o : Int32 × zI) (hf : f_X10_barred v0 v1 v2 I R = some o) : zw_FR U (o.2) (I) (J) (J) := by
  have hF : zw_FR U I I J J := zw_FR.rf
  unfold f_X10_barred at hf
  obtain ⟨g1, hf⟩ := zw_gcE hf (by decide)
  obtain ⟨q2, hq2, hf⟩ := zw_bdE hf
  rcases zw_ifE hf with ⟨c3, hf⟩ | ⟨c3, hf⟩
  ·
    cases hf
    exact hF
  ·
    obtain ⟨g4, hf⟩ := zw_gcE hf (by decide)
    obtain ⟨q5, hq5, hf⟩ := zw_bdE hf
    rcases zw_ifE hf with ⟨c6, hf⟩ | ⟨c6, hf⟩
    ·
      cases hf
      exact hF
    ·
      obtain ⟨q7, hq7, hf⟩ := zw_bdE hf
      have hF := (fr_X10_barringTest U hU v0 v1 v2 I J hv0 _ hq7).tr hF
      cases hf
      exact hF
theorem fr_X10_dearest (U : Nat → Prop) {R : zR} (hU : ∀ o j, U o → U (R o j)) (v0 : Nat) (v1 : Int32) (v2 : Int32) (v3 : Int32) (I : zI) (J : zJ) (hv0 : U v0) (o : Int32 × zI) (hf : f_X10_dearest v0 v1 v2 v3 I R = some o) : zw_FR U (o.2) (I) (J) (J) := by
  have hF : zw_FR U I I J J := zw_FR.rf
  unfold f_X10_dearest at hf
  obtain ⟨g1, hf⟩ := zw_gcE hf (by decide)
  obtain ⟨q2, hq2, hf⟩ := zw_bdE hf
  rcases zw_ifE hf with ⟨c3, hf⟩ | ⟨c3, hf⟩
  ·
    cases hf
    exact hF
  ·
    obtain ⟨q4, hq4, hf⟩ := zw_bdE hf
    rcases zw_ifE hf with ⟨c5, hf⟩ | ⟨c5, hf⟩
    ·
      cases hf
      exact hF
    ·
      obtain ⟨q6, hq6, hf⟩ := zw_bdE hf
      rcases zw_ifE hf with ⟨c7, hf⟩ | ⟨c7, hf⟩
      ·
        obtain ⟨q8, hq8, hf⟩ := zw_bdE hf
        have hF := (fr_X10_findPrices U hU v0 v1 v3 I J hv0 _ hq8).tr hF
        obtain ⟨g9, hf⟩ := zw_gcE hf (by decide)
        obtain ⟨q10, hq10, hf⟩ := zw_bdE hf
        have hF := (fr_J7_fill_53178 U hU (R v0 10) (-1) q8 J (hU _ _ hv0) _ hq10).tr hF
        obtain ⟨g11, hf⟩ := zw_gcE hf (by decide)
        obtain ⟨g12, hf⟩ := zw_gcE hf (by decide)
        obtain ⟨i13, hf⟩ := zw_inE hf
        obtain ⟨g14, hf⟩ := zw_gcE hf (by decide)
        obtain ⟨q15, hq15, hf⟩ := zw_bdE hf
        rcases zw_ifE hf with ⟨c16, hf⟩ | ⟨c16, hf⟩
        ·
          obtain ⟨g17, hf⟩ := zw_gcE hf (by decide)
          obtain ⟨i18, hf⟩ := zw_inE hf
          obtain ⟨g19, hf⟩ := zw_gcE hf (by decide)
          obtain ⟨q20, hq20, hf⟩ := zw_bdE hf
          obtain ⟨q21, hq21, hf⟩ := zw_bdE hf
          have hF := (fr_X10_lay U hU v0 1 q15 q20 q10 J hv0 _ hq21).tr hF
          obtain ⟨g22, hf⟩ := zw_gcE hf (by decide)
          obtain ⟨i23, hf⟩ := zw_inE hf
          cases hf
          exact hF
        ·
          cases hf
          exact hF
      ·
        cases hf
        exact hF
def zp_X10_openStuffs_4 (I : zI) (J : zJ) (o : (Int32 × Int32 × zI) ⊕ (Int32 × zI)) : zI × zJ := match o with | .inl t => (t.2.2, J) | .inr r => (r.2, J)
theorem fr_j_X10_openStuffs_32_4 (U : Nat → Prop) {R : zR} (hU : ∀ o j, U o → U (R o j)) (v0 : Nat) (v1 : Int32) (v2 : Int32) (v3 : Int32) (I : zI) (J : zJ)  (o : (Int32 × Int32 × zI) ⊕ (Int32 × zI)) (hf : j_X10_openStuffs_32_4 v0 v1 v2 v3 I R = some o) : zw_FR U (zp_X10_openStuffs_4 I J o).1 (I) (zp_X10_openStuffs_4 I J o).2 (J) := by
  have hF : zw_FR U I I J J := zw_FR.rf
  unfold j_X10_openStuffs_32_4 at hf
  obtain ⟨x6, ex6, hf⟩ := zw_letE hf
  cases hf
  exact hF
theorem fr_s_X10_openStuffs_4 (U : Nat → Prop) {R : zR} (hU : ∀ o j, U o → U (R o j)) (v0 : Nat) (v1 : Int32) (J : zJ) (hv0 : U v0) (s : Int32 × Int32 × zI) (o : (Int32 × Int32 × zI) ⊕ (Int32 × zI)) (hf : s_X10_openStuffs_4 v0 v1 R s = some o) : zw_FR U (zp_X10_openStuffs_4 s.2.2 J o).1 (s.2.2) (zp_X10_openStuffs_4 s.2.2 J o).2 (J) := by
  have hF : zw_FR U (s.2.2) (s.2.2) (J) (J) := zw_FR.rf
  unfold s_X10_openStuffs_4 at hf
  obtain ⟨g1, hf⟩ := zw_gcE hf (by decide)
  obtain ⟨g2, hf⟩ := zw_gcE hf (by decide)
  rcases zw_ifE hf with ⟨c3, hf⟩ | ⟨c3, hf⟩
  ·
    cases hf
    exact hF
  ·
    obtain ⟨q4, hq4, hf⟩ := zw_bdE hf
    have hF := (fr_X10_barringTest U hU v0 s.2.1 v1 s.2.2 J hv0 _ hq4).tr hF
    rcases zw_ifE hf with ⟨c5, hf⟩ | ⟨c5, hf⟩
    ·
      exact (fr_j_X10_openStuffs_32_4 U hU v0 v1 s.1 s.2.1 q4.2 J  _ hf).tr hF
    ·
      obtain ⟨x7, ex7, hf⟩ := zw_letE hf
      exact (fr_j_X10_openStuffs_32_4 U hU v0 v1 x7 s.2.1 q4.2 J  _ hf).tr hF
theorem fr_s_X10_openStuffs_4_lp (U : Nat → Prop) {R : zR} (hU : ∀ o j, U o → U (R o j)) (v0 : Nat) (v1 : Int32) (J : zJ) (hv0 : U v0) (n : Nat) (s : Int32 × Int32 × zI) (r : Int32 × zI) (h : zw_it (s_X10_openStuffs_4 v0 v1 R) n s = some r) : zw_FR U (zp_X10_openStuffs_4 (s.2.2) (J) (.inr r)).1 (s.2.2) (zp_X10_openStuffs_4 (s.2.2) (J) (.inr r)).2 (J) :=
  zw_itF (A := fun t t0 : Int32 × Int32 × zI => zw_FR U (t.2.2) (t0.2.2) (J) (J)) (Q := fun (r : Int32 × zI) (t : Int32 × Int32 × zI) => zw_FR U (zp_X10_openStuffs_4 (t.2.2) (J) (.inr r)).1 (t.2.2) (zp_X10_openStuffs_4 (t.2.2) (J) (.inr r)).2 (J)) (fun s o h1 => by
    have h2 := fr_s_X10_openStuffs_4 U hU v0 v1 J hv0 s o h1
    cases o with
    | inl t => exact h2
    | inr r => exact h2) (fun h1 h2 => zw_FR.tr h2 h1) n s r h
theorem fr_X10_openStuffs (U : Nat → Prop) {R : zR} (hU : ∀ o j, U o → U (R o j)) (v0 : Nat) (v1 : Int32) (I : zI) (J : zJ) (hv0 : U v0) (o : Int32 × zI) (hf : f_X10_openStuffs v0 v1 I R = some o) : zw_FR U (o.2) (I) (J) (J) := by
  have hF : zw_FR U I I J J := zw_FR.rf
  unfold f_X10_openStuffs at hf
  obtain ⟨q8, hq8, hf⟩ := zw_bdE hf
  have hF := (fr_s_X10_openStuffs_4_lp U hU v0 v1 J hv0 _ _ _ hq8).tr hF
  cases hf
  exact hF
def zp_X10_two_58 (I : zI) (J : zJ) (o : (Int32 × Int32 × zI) ⊕ (Int32 × zI)) : zI × zJ := match o with | .inl t => (t.2.2, J) | .inr r => (r.2, J)
theorem fr_j_X10_two_207_58 (U : Nat → Prop) {R : zR} (hU : ∀ o j, U o → U (R o j)) (v0 : Nat) (v1 : Int32) (v4 : Nat) (v5 : Int32) (v6 : Int32) (I : zI) (J : zJ)  (o : (Int32 × Int32 × zI) ⊕ (Int32 × zI)) (hf : j_X10_two_207_58 v0 v1 v4 v5 v6 I R = some o) : zw_FR U (zp_X10_two_58 I J o).1 (I) (zp_X10_two_58 I J o).2 (J) := by
  have hF : zw_FR U I I J J := zw_FR.rf
  unfold j_X10_two_207_58 at hf
  obtain ⟨x21, ex21, hf⟩ := zw_letE hf
  cases hf
  exact hF
theorem fr_s_X10_two_58 (U : Nat → Prop) {R : zR} (hU : ∀ o j, U o → U (R o j)) (v0 : Nat) (v1 : Int32) (v4 : Nat) (J : zJ) (hv0 : U v0) (s : Int32 × Int32 × zI) (o : (Int32 × Int32 × zI) ⊕ (Int32 × zI)) (hf : s_X10_two_58 v0 v1 v4 R s = some o) : zw_FR U (zp_X10_two_58 s.2.2 J o).1 (s.2.2) (zp_X10_two_58 s.2.2 J o).2 (J) := by
  have hF : zw_FR U (s.2.2) (s.2.2) (J) (J) := zw_FR.rf
  unfold s_X10_two_58 at hf
  obtain ⟨g15, hf⟩ := zw_gcE hf (by decide)
  rcases zw_ifE hf with ⟨c16, hf⟩ | ⟨c16, hf⟩
  ·
    cases hf
    exact hF
  ·
    obtain ⟨g17, hf⟩ := zw_gcE hf (by decide)
    obtain ⟨q18, hq18, hf⟩ := zw_bdE hf
    obtain ⟨q19, hq19, hf⟩ := zw_bdE hf
    rcases zw_ifE hf with ⟨c20, hf⟩ | ⟨c20, hf⟩
    ·
      exact (fr_j_X10_two_207_58 U hU v0 v1 v4 s.1 s.2.1 s.2.2 J  _ hf).tr hF
    ·
      rcases zw_ifE hf with ⟨c22, hf⟩ | ⟨c22, hf⟩
      ·
        exact (fr_j_X10_two_207_58 U hU v0 v1 v4 s.1 s.2.1 s.2.2 J  _ hf).tr hF
      ·
        obtain ⟨g23, hf⟩ := zw_gcE hf (by decide)
        obtain ⟨i24, hf⟩ := zw_inE hf
        obtain ⟨i25, hf⟩ := zw_inE hf
        rcases zw_ifE hf with ⟨c26, hf⟩ | ⟨c26, hf⟩
        ·
          exact (fr_j_X10_two_207_58 U hU v0 v1 v4 s.1 s.2.1 s.2.2 J  _ hf).tr hF
        ·
          obtain ⟨i27, hf⟩ := zw_inE hf
          obtain ⟨i28, hf⟩ := zw_inE hf
          obtain ⟨x29, ex29, hf⟩ := zw_letE hf
          obtain ⟨g30, hf⟩ := zw_gcE hf (by decide)
          obtain ⟨i31, hf⟩ := zw_inE hf
          obtain ⟨I32, eI32, hf⟩ := zw_letE hf
          have hF := hF.wI eI32 (hU _ _ hv0)
          obtain ⟨g33, hf⟩ := zw_gcE hf (by decide)
          obtain ⟨g34, hf⟩ := zw_gcE hf (by decide)
          obtain ⟨i35, hf⟩ := zw_inE hf
          obtain ⟨g36, hf⟩ := zw_gcE hf (by decide)
          obtain ⟨q37, hq37, hf⟩ := zw_bdE hf
          obtain ⟨q38, hq38, hf⟩ := zw_bdE hf
          have hF := (fr_X10_lay U hU v0 1 q18 q37 I32 J hv0 _ hq38).tr hF
          obtain ⟨i39, hf⟩ := zw_inE hf
          obtain ⟨g40, hf⟩ := zw_gcE hf (by decide)
          obtain ⟨q41, hq41, hf⟩ := zw_bdE hf
          obtain ⟨q42, hq42, hf⟩ := zw_bdE hf
          have hF := (fr_X10_lay U hU v0 4 q19 q41 q38 J hv0 _ hq42).tr hF
          exact (fr_j_X10_two_207_58 U hU v0 v1 v4 x29 s.2.1 q42 J  _ hf).tr hF
theorem fr_s_X10_two_58_lp (U : Nat → Prop) {R : zR} (hU : ∀ o j, U o → U (R o j)) (v0 : Nat) (v1 : Int32) (v4 : Nat) (J : zJ) (hv0 : U v0) (n : Nat) (s : Int32 × Int32 × zI) (r : Int32 × zI) (h : zw_it (s_X10_two_58 v0 v1 v4 R) n s = some r) : zw_FR U (zp_X10_two_58 (s.2.2) (J) (.inr r)).1 (s.2.2) (zp_X10_two_58 (s.2.2) (J) (.inr r)).2 (J) :=
  zw_itF (A := fun t t0 : Int32 × Int32 × zI => zw_FR U (t.2.2) (t0.2.2) (J) (J)) (Q := fun (r : Int32 × zI) (t : Int32 × Int32 × zI) => zw_FR U (zp_X10_two_58 (t.2.2) (J) (.inr r)).1 (t.2.2) (zp_X10_two_58 (t.2.2) (J) (.inr r)).2 (J)) (fun s o h1 => by
    have h2 := fr_s_X10_two_58 U hU v0 v1 v4 J hv0 s o h1
    cases o with
    | inl t => exact h2
    | inr r => exact h2) (fun h1 h2 => zw_FR.tr h2 h1) n s r h
theorem fr_X10_two (U : Nat → Prop) {R : zR} (hU : ∀ o j, U o → U (R o j)) (v0 : Nat) (v1 : Int32) (v2 : Int32) (v3 : Int32) (I : zI) (J : zJ) (hv0 : U v0) (o : Int32 × zI) (hf : f_X10_two v0 v1 v2 v3 I R = some o) : zw_FR U (o.2) (I) (J) (J) := by
  have hF : zw_FR U I I J J := zw_FR.rf
  unfold f_X10_two at hf
  obtain ⟨g1, hf⟩ := zw_gcE hf (by decide)
  obtain ⟨q2, hq2, hf⟩ := zw_bdE hf
  rcases zw_ifE hf with ⟨c3, hf⟩ | ⟨c3, hf⟩
  ·
    cases hf
    exact hF
  ·
    obtain ⟨q4, hq4, hf⟩ := zw_bdE hf
    rcases zw_ifE hf with ⟨c5, hf⟩ | ⟨c5, hf⟩
    ·
      cases hf
      exact hF
    ·
      obtain ⟨q6, hq6, hf⟩ := zw_bdE hf
      rcases zw_ifE hf with ⟨c7, hf⟩ | ⟨c7, hf⟩
      ·
        obtain ⟨q8, hq8, hf⟩ := zw_bdE hf
        have hF := (fr_X10_findPrices U hU v0 v1 v3 I J hv0 _ hq8).tr hF
        obtain ⟨g9, hf⟩ := zw_gcE hf (by decide)
        obtain ⟨q10, hq10, hf⟩ := zw_bdE hf
        have hF := (fr_J7_fill_53178 U hU (R v0 10) (-1) q8 J (hU _ _ hv0) _ hq10).tr hF
        obtain ⟨g11, hf⟩ := zw_gcE hf (by decide)
        obtain ⟨g12, hf⟩ := zw_gcE hf (by decide)
        obtain ⟨i13, hf⟩ := zw_inE hf
        obtain ⟨g14, hf⟩ := zw_gcE hf (by decide)
        obtain ⟨q43, hq43, hf⟩ := zw_bdE hf
        have hF := (fr_s_X10_two_58_lp U hU v0 v1 (R (R (R v0 2) 4) (Int32.toNatClampNeg v2)) J hv0 _ _ _ hq43).tr hF
        cases hf
        exact hF
      ·
        cases hf
        exact hF
def zp_X11_barredBy_2 (I : zI) (J : zJ) (o : (Int32 × zI) ⊕ ((zI) ⊕ (Int32 × zI))) : zI × zJ := match o with | .inl t => (t.2, J) | .inr r => (match r with | .inl r0 => (r0, J) | .inr t0 => (t0.2, J))
theorem fr_j_X11_barredBy_83_2 (U : Nat → Prop) {R : zR} (hU : ∀ o j, U o → U (R o j)) (v0 : Nat) (v1 : Int32) (v2 : Int32) (v3 : Int32) (I : zI) (J : zJ)  (o : (Int32 × zI) ⊕ ((zI) ⊕ (Int32 × zI))) (hf : j_X11_barredBy_83_2 v0 v1 v2 v3 I R = some o) : zw_FR U (zp_X11_barredBy_2 I J o).1 (I) (zp_X11_barredBy_2 I J o).2 (J) := by
  have hF : zw_FR U I I J J := zw_FR.rf
  unfold j_X11_barredBy_83_2 at hf
  obtain ⟨x6, ex6, hf⟩ := zw_letE hf
  cases hf
  exact hF
theorem fr_j_X11_barredBy_65_2 (U : Nat → Prop) {R : zR} (hU : ∀ o j, U o → U (R o j)) (v0 : Nat) (v1 : Int32) (v2 : Int32) (v3 : Int32) (v4 : Int32) (I : zI) (J : zJ)  (o : (Int32 × zI) ⊕ ((zI) ⊕ (Int32 × zI))) (hf : j_X11_barredBy_65_2 v0 v1 v2 v3 v4 I R = some o) : zw_FR U (zp_X11_barredBy_2 I J o).1 (I) (zp_X11_barredBy_2 I J o).2 (J) := by
  have hF : zw_FR U I I J J := zw_FR.rf
  unfold j_X11_barredBy_65_2 at hf
  obtain ⟨g18, hf⟩ := zw_gcE hf (by decide)
  obtain ⟨g19, hf⟩ := zw_gcE hf (by decide)
  obtain ⟨i20, hf⟩ := zw_inE hf
  rcases zw_ifE hf with ⟨c21, hf⟩ | ⟨c21, hf⟩
  ·
    exact (fr_j_X11_barredBy_83_2 U hU v0 v1 v2 v3 I J  _ hf).tr hF
  ·
    cases hf
    exact hF
theorem fr_s_X11_barredBy_2 (U : Nat → Prop) {R : zR} (hU : ∀ o j, U o → U (R o j)) (v0 : Nat) (v1 : Int32) (v2 : Int32) (J : zJ) (hv0 : U v0) (s : Int32 × zI) (o : (Int32 × zI) ⊕ ((zI) ⊕ (Int32 × zI))) (hf : s_X11_barredBy_2 v0 v1 v2 R s = some o) : zw_FR U (zp_X11_barredBy_2 s.2 J o).1 (s.2) (zp_X11_barredBy_2 s.2 J o).2 (J) := by
  have hF : zw_FR U (s.2) (s.2) (J) (J) := zw_FR.rf
  unfold s_X11_barredBy_2 at hf
  rcases zw_ifE hf with ⟨c1, hf⟩ | ⟨c1, hf⟩
  ·
    cases hf
    exact hF
  ·
    obtain ⟨g2, hf⟩ := zw_gcE hf (by decide)
    obtain ⟨g3, hf⟩ := zw_gcE hf (by decide)
    obtain ⟨i4, hf⟩ := zw_inE hf
    rcases zw_ifE hf with ⟨c5, hf⟩ | ⟨c5, hf⟩
    ·
      exact (fr_j_X11_barredBy_83_2 U hU v0 v1 v2 s.1 s.2 J  _ hf).tr hF
    ·
      obtain ⟨q7, hq7, hf⟩ := zw_bdE hf
      rcases zw_ifE hf with ⟨c8, hf⟩ | ⟨c8, hf⟩
      ·
        obtain ⟨g9, hf⟩ := zw_gcE hf (by decide)
        obtain ⟨i10, hf⟩ := zw_inE hf
        obtain ⟨g11, hf⟩ := zw_gcE hf (by decide)
        obtain ⟨i12, hf⟩ := zw_inE hf
        obtain ⟨g13, hf⟩ := zw_gcE hf (by decide)
        obtain ⟨i14, hf⟩ := zw_inE hf
        obtain ⟨q15, hq15, hf⟩ := zw_bdE hf
        have hF := (fr_X11_brightOf U hU v0 (s.2 (R v0 77) (Int32.toNatClampNeg s.1)) v1 (s.2 (R v0 78) (Int32.toNatClampNeg s.1)) s.2 J hv0 _ hq15).tr hF
        obtain ⟨x16, ex16, hf⟩ := zw_letE hf
        rcases zw_ifE hf with ⟨c17, hf⟩ | ⟨c17, hf⟩
        ·
          exact (fr_j_X11_barredBy_65_2 U hU v0 v1 v2 s.1 x16 q15.2 J  _ hf).tr hF
        ·
          obtain ⟨x22, ex22, hf⟩ := zw_letE hf
          exact (fr_j_X11_barredBy_65_2 U hU v0 v1 v2 s.1 x22 q15.2 J  _ hf).tr hF
      ·
        exact (fr_j_X11_barredBy_83_2 U hU v0 v1 v2 s.1 s.2 J  _ hf).tr hF
theorem fr_s_X11_barredBy_2_lp (U : Nat → Prop) {R : zR} (hU : ∀ o j, U o → U (R o j)) (v0 : Nat) (v1 : Int32) (v2 : Int32) (J : zJ) (hv0 : U v0) (n : Nat) (s : Int32 × zI) (r : (zI) ⊕ (Int32 × zI)) (h : zw_it (s_X11_barredBy_2 v0 v1 v2 R) n s = some r) : zw_FR U (zp_X11_barredBy_2 (s.2) (J) (.inr r)).1 (s.2) (zp_X11_barredBy_2 (s.2) (J) (.inr r)).2 (J) :=
  zw_itF (A := fun t t0 : Int32 × zI => zw_FR U (t.2) (t0.2) (J) (J)) (Q := fun (r : (zI) ⊕ (Int32 × zI)) (t : Int32 × zI) => zw_FR U (zp_X11_barredBy_2 (t.2) (J) (.inr r)).1 (t.2) (zp_X11_barredBy_2 (t.2) (J) (.inr r)).2 (J)) (fun s o h1 => by
    have h2 := fr_s_X11_barredBy_2 U hU v0 v1 v2 J hv0 s o h1
    cases o with
    | inl t => exact h2
    | inr r => exact h2) (fun h1 h2 => zw_FR.tr h2 h1) n s r h
theorem fr_X11_barredBy (U : Nat → Prop) {R : zR} (hU : ∀ o j, U o → U (R o j)) (v0 : Nat) (v1 : Int32) (v2 : Int32) (I : zI) (J : zJ) (hv0 : U v0) (o : Int32 × zI) (hf : f_X11_barredBy v0 v1 v2 I R = some o) : zw_FR U (o.2) (I) (J) (J) := by
  have hF : zw_FR U I I J J := zw_FR.rf
  unfold f_X11_barredBy at hf
  obtain ⟨q23, hq23, hf⟩ := zw_bdE hf
  have hF := (fr_s_X11_barredBy_2_lp U hU v0 v1 v2 J hv0 _ _ _ hq23).tr hF
  rcases q23 with a24 | a25
  ·
    cases hf
    exact hF
  ·
    cases hf
    exact hF
theorem fr_j_X11_bright_25 (U : Nat → Prop) {R : zR} (hU : ∀ o j, U o → U (R o j))  (I : zI) (J : zJ)  (o : Int32 × zI) (hf : j_X11_bright_25 I R = some o) : zw_FR U (o.2) (I) (J) (J) := by
  have hF : zw_FR U I I J J := zw_FR.rf
  unfold j_X11_bright_25 at hf
  cases hf
  exact hF
theorem fr_X11_bright (U : Nat → Prop) {R : zR} (hU : ∀ o j, U o → U (R o j)) (v0 : Nat) (v1 : Int32) (v2 : Int32) (v3 : Int32) (I : zI) (J : zJ) (hv0 : U v0) (o : Int32 × zI) (hf : f_X11_bright v0 v1 v2 v3 I R = some o) : zw_FR U (o.2) (I) (J) (J) := by
  have hF : zw_FR U I I J J := zw_FR.rf
  unfold f_X11_bright at hf
  obtain ⟨g1, hf⟩ := zw_gcE hf (by decide)
  obtain ⟨q2, hq2, hf⟩ := zw_bdE hf
  rcases zw_ifE hf with ⟨c3, hf⟩ | ⟨c3, hf⟩
  ·
    exact (fr_j_X11_bright_25 U hU  I J  _ hf).tr hF
  ·
    obtain ⟨q4, hq4, hf⟩ := zw_bdE hf
    rcases zw_ifE hf with ⟨c5, hf⟩ | ⟨c5, hf⟩
    ·
      exact (fr_j_X11_bright_25 U hU  I J  _ hf).tr hF
    ·
      obtain ⟨q6, hq6, hf⟩ := zw_bdE hf
      rcases zw_ifE hf with ⟨c7, hf⟩ | ⟨c7, hf⟩
      ·
        obtain ⟨q8, hq8, hf⟩ := zw_bdE hf
        have hF := (fr_X11_brightOf U hU v0 v1 v2 v3 I J hv0 _ hq8).tr hF
        cases hf
        exact hF
      ·
        exact (fr_j_X11_bright_25 U hU  I J  _ hf).tr hF
def zp_X11_dearest_30 (I : zI) (J : zJ) (o : (Int32 × Int32 × zI) ⊕ (Int32 × zI)) : zI × zJ := match o with | .inl t => (t.2.2, J) | .inr r => (r.2, J)
theorem fr_j_X11_dearest_176_30 (U : Nat → Prop) {R : zR} (hU : ∀ o j, U o → U (R o j)) (v0 : Nat) (v1 : Int32) (v2 : Int32) (v4 : Int32) (v5 : Int32) (I : zI) (J : zJ)  (o : (Int32 × Int32 × zI) ⊕ (Int32 × zI)) (hf : j_X11_dearest_176_30 v0 v1 v2 v4 v5 I R = some o) : zw_FR U (zp_X11_dearest_30 I J o).1 (I) (zp_X11_dearest_30 I J o).2 (J) := by
  have hF : zw_FR U I I J J := zw_FR.rf
  unfold j_X11_dearest_176_30 at hf
  obtain ⟨x11, ex11, hf⟩ := zw_letE hf
  cases hf
  exact hF
def zp_X11_dearest_125 (I : zI) (J : zJ) (o : (Int32 × zI) ⊕ (zI)) : zI × zJ := match o with | .inl t => (t.2, J) | .inr r => (r, J)
theorem fr_s_X11_dearest_125 (U : Nat → Prop) {R : zR} (hU : ∀ o j, U o → U (R o j)) (v0 : Nat) (v1 : Int32) (v2 : Int32) (v4 : Int32) (v5 : Int32) (v6 : Int32) (J : zJ) (hv0 : U v0) (s : Int32 × zI) (o : (Int32 × zI) ⊕ (zI)) (hf : s_X11_dearest_125 v0 v1 v2 v4 v5 v6 R s = some o) : zw_FR U (zp_X11_dearest_125 s.2 J o).1 (s.2) (zp_X11_dearest_125 s.2 J o).2 (J) := by
  have hF : zw_FR U (s.2) (s.2) (J) (J) := zw_FR.rf
  unfold s_X11_dearest_125 at hf
  rcases zw_ifE hf with ⟨c21, hf⟩ | ⟨c21, hf⟩
  ·
    cases hf
    exact hF
  ·
    obtain ⟨g22, hf⟩ := zw_gcE hf (by decide)
    obtain ⟨g23, hf⟩ := zw_gcE hf (by decide)
    obtain ⟨i24, hf⟩ := zw_inE hf
    obtain ⟨I25, eI25, hf⟩ := zw_letE hf
    have hF := hF.wI eI25 (hU _ _ hv0)
    obtain ⟨x26, ex26, hf⟩ := zw_letE hf
    cases hf
    exact hF
theorem fr_s_X11_dearest_125_lp (U : Nat → Prop) {R : zR} (hU : ∀ o j, U o → U (R o j)) (v0 : Nat) (v1 : Int32) (v2 : Int32) (v4 : Int32) (v5 : Int32) (v6 : Int32) (J : zJ) (hv0 : U v0) (n : Nat) (s : Int32 × zI) (r : zI) (h : zw_it (s_X11_dearest_125 v0 v1 v2 v4 v5 v6 R) n s = some r) : zw_FR U (zp_X11_dearest_125 (s.2) (J) (.inr r)).1 (s.2) (zp_X11_dearest_125 (s.2) (J) (.inr r)).2 (J) :=
  zw_itF (A := fun t t0 : Int32 × zI => zw_FR U (t.2) (t0.2) (J) (J)) (Q := fun (r : zI) (t : Int32 × zI) => zw_FR U (zp_X11_dearest_125 (t.2) (J) (.inr r)).1 (t.2) (zp_X11_dearest_125 (t.2) (J) (.inr r)).2 (J)) (fun s o h1 => by
    have h2 := fr_s_X11_dearest_125 U hU v0 v1 v2 v4 v5 v6 J hv0 s o h1
    cases o with
    | inl t => exact h2
    | inr r => exact h2) (fun h1 h2 => zw_FR.tr h2 h1) n s r h
theorem fr_j_X11_dearest_75_30 (U : Nat → Prop) {R : zR} (hU : ∀ o j, U o → U (R o j)) (v0 : Nat) (v1 : Int32) (v2 : Int32) (v4 : Int32) (v5 : Int32) (I : zI) (J : zJ) (hv0 : U v0) (o : (Int32 × Int32 × zI) ⊕ (Int32 × zI)) (hf : j_X11_dearest_75_30 v0 v1 v2 v4 v5 I R = some o) : zw_FR U (zp_X11_dearest_30 I J o).1 (I) (zp_X11_dearest_30 I J o).2 (J) := by
  have hF : zw_FR U I I J J := zw_FR.rf
  unfold j_X11_dearest_75_30 at hf
  obtain ⟨g13, hf⟩ := zw_gcE hf (by decide)
  obtain ⟨q14, hq14, hf⟩ := zw_bdE hf
  obtain ⟨q15, hq15, hf⟩ := zw_bdE hf
  rcases zw_ifE hf with ⟨c16, hf⟩ | ⟨c16, hf⟩
  ·
    obtain ⟨g17, hf⟩ := zw_gcE hf (by decide)
    obtain ⟨i18, hf⟩ := zw_inE hf
    obtain ⟨x19, ex19, hf⟩ := zw_letE hf
    obtain ⟨I20, eI20, hf⟩ := zw_letE hf
    have hF := hF.wI eI20 hv0
    obtain ⟨q27, hq27, hf⟩ := zw_bdE hf
    have hF := (fr_s_X11_dearest_125_lp U hU v0 v1 v2 x19 v5 q15 J hv0 _ _ _ hq27).tr hF
    obtain ⟨g28, hf⟩ := zw_gcE hf (by decide)
    obtain ⟨i29, hf⟩ := zw_inE hf
    obtain ⟨I30, eI30, hf⟩ := zw_letE hf
    have hF := hF.wI eI30 (hU _ _ hv0)
    obtain ⟨i31, hf⟩ := zw_inE hf
    obtain ⟨I32, eI32, hf⟩ := zw_letE hf
    have hF := hF.wI eI32 (hU _ _ hv0)
    obtain ⟨i33, hf⟩ := zw_inE hf
    obtain ⟨I34, eI34, hf⟩ := zw_letE hf
    have hF := hF.wI eI34 (hU _ _ hv0)
    exact (fr_j_X11_dearest_176_30 U hU v0 v1 v2 x19 v5 I34 J  _ hf).tr hF
  ·
    exact (fr_j_X11_dearest_176_30 U hU v0 v1 v2 v4 v5 I J  _ hf).tr hF
theorem fr_s_X11_dearest_30 (U : Nat → Prop) {R : zR} (hU : ∀ o j, U o → U (R o j)) (v0 : Nat) (v1 : Int32) (v2 : Int32) (J : zJ) (hv0 : U v0) (s : Int32 × Int32 × zI) (o : (Int32 × Int32 × zI) ⊕ (Int32 × zI)) (hf : s_X11_dearest_30 v0 v1 v2 R s = some o) : zw_FR U (zp_X11_dearest_30 s.2.2 J o).1 (s.2.2) (zp_X11_dearest_30 s.2.2 J o).2 (J) := by
  have hF : zw_FR U (s.2.2) (s.2.2) (J) (J) := zw_FR.rf
  unfold s_X11_dearest_30 at hf
  obtain ⟨g6, hf⟩ := zw_gcE hf (by decide)
  obtain ⟨g7, hf⟩ := zw_gcE hf (by decide)
  obtain ⟨i8, hf⟩ := zw_inE hf
  rcases zw_ifE hf with ⟨c9, hf⟩ | ⟨c9, hf⟩
  ·
    cases hf
    exact hF
  ·
    rcases zw_ifE hf with ⟨c10, hf⟩ | ⟨c10, hf⟩
    ·
      exact (fr_j_X11_dearest_176_30 U hU v0 v1 v2 s.1 s.2.1 s.2.2 J  _ hf).tr hF
    ·
      rcases zw_ifE hf with ⟨c12, hf⟩ | ⟨c12, hf⟩
      ·
        exact (fr_j_X11_dearest_75_30 U hU v0 v1 v2 s.1 s.2.1 s.2.2 J hv0 _ hf).tr hF
      ·
        obtain ⟨g35, hf⟩ := zw_gcE hf (by decide)
        obtain ⟨i36, hf⟩ := zw_inE hf
        rcases zw_ifE hf with ⟨c37, hf⟩ | ⟨c37, hf⟩
        ·
          exact (fr_j_X11_dearest_75_30 U hU v0 v1 v2 s.1 s.2.1 s.2.2 J hv0 _ hf).tr hF
        ·
          exact (fr_j_X11_dearest_176_30 U hU v0 v1 v2 s.1 s.2.1 s.2.2 J  _ hf).tr hF
theorem fr_s_X11_dearest_30_lp (U : Nat → Prop) {R : zR} (hU : ∀ o j, U o → U (R o j)) (v0 : Nat) (v1 : Int32) (v2 : Int32) (J : zJ) (hv0 : U v0) (n : Nat) (s : Int32 × Int32 × zI) (r : Int32 × zI) (h : zw_it (s_X11_dearest_30 v0 v1 v2 R) n s = some r) : zw_FR U (zp_X11_dearest_30 (s.2.2) (J) (.inr r)).1 (s.2.2) (zp_X11_dearest_30 (s.2.2) (J) (.inr r)).2 (J) :=
  zw_itF (A := fun t t0 : Int32 × Int32 × zI => zw_FR U (t.2.2) (t0.2.2) (J) (J)) (Q := fun (r : Int32 × zI) (t : Int32 × Int32 × zI) => zw_FR U (zp_X11_dearest_30 (t.2.2) (J) (.inr r)).1 (t.2.2) (zp_X11_dearest_30 (t.2.2) (J) (.inr r)).2 (J)) (fun s o h1 => by
    have h2 := fr_s_X11_dearest_30 U hU v0 v1 v2 J hv0 s o h1
    cases o with
    | inl t => exact h2
    | inr r => exact h2) (fun h1 h2 => zw_FR.tr h2 h1) n s r h
theorem fr_X11_dearest (U : Nat → Prop) {R : zR} (hU : ∀ o j, U o → U (R o j)) (v0 : Nat) (v1 : Int32) (v2 : Int32) (v3 : Int32) (I : zI) (J : zJ) (hv0 : U v0) (o : Int32 × zI) (hf : f_X11_dearest v0 v1 v2 v3 I R = some o) : zw_FR U (o.2) (I) (J) (J) := by
  have hF : zw_FR U I I J J := zw_FR.rf
  unfold f_X11_dearest at hf
  obtain ⟨g1, hf⟩ := zw_gcE hf (by decide)
  obtain ⟨q2, hq2, hf⟩ := zw_bdE hf
  rcases zw_ifE hf with ⟨c3, hf⟩ | ⟨c3, hf⟩
  ·
    obtain ⟨q4, hq4, hf⟩ := zw_bdE hf
    have hF := (fr_X11_prices U hU v0 v1 v3 I J hv0 _ hq4).tr hF
    obtain ⟨I5, eI5, hf⟩ := zw_letE hf
    have hF := hF.wI eI5 hv0
    obtain ⟨q38, hq38, hf⟩ := zw_bdE hf
    have hF := (fr_s_X11_dearest_30_lp U hU v0 v1 v2 J hv0 _ _ _ hq38).tr hF
    cases hf
    exact hF
  ·
    cases hf
    exact hF
theorem fr_j_X11_tell_62 (U : Nat → Prop) {R : zR} (hU : ∀ o j, U o → U (R o j)) (v0 : Nat) (I : zI) (J : zJ) (hv0 : U v0) (o : zI × zJ) (hf : j_X11_tell_62 v0 I R J = some o) : zw_FR U (o.1) (I) (o.2) (J) := by
  have hF : zw_FR U I I J J := zw_FR.rf
  unfold j_X11_tell_62 at hf
  obtain ⟨g9, hf⟩ := zw_gcE hf (by decide)
  rcases zw_ifE hf with ⟨c10, hf⟩ | ⟨c10, hf⟩
  ·
    cases hf
    exact hF
  ·
    obtain ⟨q11, hq11, hf⟩ := zw_bdE hf
    have hF := (fr_X11_tellStuff U hU v0 I J hv0 _ hq11).tr hF
    cases hf
    exact hF
theorem fr_j_X11_tell_95 (U : Nat → Prop) {R : zR} (hU : ∀ o j, U o → U (R o j)) (v0 : Nat) (I : zI) (J : zJ) (hv0 : U v0) (o : zI × zJ) (hf : j_X11_tell_95 v0 I R J = some o) : zw_FR U (o.1) (I) (o.2) (J) := by
  have hF : zw_FR U I I J J := zw_FR.rf
  unfold j_X11_tell_95 at hf
  obtain ⟨g17, hf⟩ := zw_gcE hf (by decide)
  rcases zw_ifE hf with ⟨c18, hf⟩ | ⟨c18, hf⟩
  ·
    cases hf
    exact hF
  ·
    obtain ⟨g19, hf⟩ := zw_gcE hf (by decide)
    obtain ⟨i20, hf⟩ := zw_inE hf
    obtain ⟨q21, hq21, hf⟩ := zw_bdE hf
    have hF := (fr_X11_tellRows U hU v0 ((10 * (I v0 19)) + (I (R v0 26) (Int32.toNatClampNeg (I v0 19)))) 1 I J hv0 _ hq21).tr hF
    cases hf
    exact hF
theorem fr_j_X11_tell_145 (U : Nat → Prop) {R : zR} (hU : ∀ o j, U o → U (R o j)) (v0 : Nat) (I : zI) (J : zJ) (hv0 : U v0) (o : zI × zJ) (hf : j_X11_tell_145 v0 I R J = some o) : zw_FR U (o.1) (I) (o.2) (J) := by
  have hF : zw_FR U I I J J := zw_FR.rf
  unfold j_X11_tell_145 at hf
  obtain ⟨g27, hf⟩ := zw_gcE hf (by decide)
  rcases zw_ifE hf with ⟨c28, hf⟩ | ⟨c28, hf⟩
  ·
    cases hf
    exact hF
  ·
    obtain ⟨g29, hf⟩ := zw_gcE hf (by decide)
    obtain ⟨i30, hf⟩ := zw_inE hf
    obtain ⟨q31, hq31, hf⟩ := zw_bdE hf
    have hF := (fr_X11_tellRows U hU v0 (((10 * (I v0 19)) + 6) + (I (R v0 27) (Int32.toNatClampNeg (I v0 19)))) 0 I J hv0 _ hq31).tr hF
    cases hf
    exact hF
theorem fr_j_X11_tell_199 (U : Nat → Prop) {R : zR} (hU : ∀ o j, U o → U (R o j)) (v0 : Nat) (I : zI) (J : zJ) (hv0 : U v0) (o : zI × zJ) (hf : j_X11_tell_199 v0 I R J = some o) : zw_FR U (o.1) (I) (o.2) (J) := by
  have hF : zw_FR U I I J J := zw_FR.rf
  unfold j_X11_tell_199 at hf
  obtain ⟨g37, hf⟩ := zw_gcE hf (by decide)
  rcases zw_ifE hf with ⟨c38, hf⟩ | ⟨c38, hf⟩
  ·
    cases hf
    exact hF
  ·
    obtain ⟨g39, hf⟩ := zw_gcE hf (by decide)
    obtain ⟨i40, hf⟩ := zw_inE hf
    obtain ⟨q41, hq41, hf⟩ := zw_bdE hf
    have hF := (fr_X11_tellRule U hU v0 ((16 * (I v0 19)) + (I (R v0 31) (Int32.toNatClampNeg (I v0 19)))) 0 I J hv0 _ hq41).tr hF
    cases hf
    exact hF
theorem fr_j_X11_tell_250 (U : Nat → Prop) {R : zR} (hU : ∀ o j, U o → U (R o j)) (v0 : Nat) (I : zI) (J : zJ) (hv0 : U v0) (o : zI × zJ) (hf : j_X11_tell_250 v0 I R J = some o) : zw_FR U (o.1) (I) (o.2) (J) := by
  have hF : zw_FR U I I J J := zw_FR.rf
  unfold j_X11_tell_250 at hf
  obtain ⟨g47, hf⟩ := zw_gcE hf (by decide)
  rcases zw_ifE hf with ⟨c48, hf⟩ | ⟨c48, hf⟩
  ·
    cases hf
    exact hF
  ·
    obtain ⟨g49, hf⟩ := zw_gcE hf (by decide)
    obtain ⟨i50, hf⟩ := zw_inE hf
    obtain ⟨q51, hq51, hf⟩ := zw_bdE hf
    have hF := (fr_X11_tellRule U hU v0 (((16 * (I v0 19)) + 8) + (I (R v0 32) (Int32.toNatClampNeg (I v0 19)))) 1 I J hv0 _ hq51).tr hF
    cases hf
    exact hF
theorem fr_X11_tell (U : Nat → Prop) {R : zR} (hU : ∀ o j, U o → U (R o j)) (v0 : Nat) (I : zI) (J : zJ) (hv0 : U v0) (o : zI × zJ) (hf : f_X11_tell v0 I R J = some o) : zw_FR U (o.1) (I) (o.2) (J) := by
  have hF : zw_FR U I I J J := zw_FR.rf
  unfold f_X11_tell at hf
  obtain ⟨g1, hf⟩ := zw_gcE hf (by decide)
  obtain ⟨g2, hf⟩ := zw_gcE hf (by decide)
  obtain ⟨i3, hf⟩ := zw_inE hf
  obtain ⟨x4, ex4, hf⟩ := zw_letE hf
  rcases zw_ifE hf with ⟨c5, hf⟩ | ⟨c5, hf⟩
  ·
    obtain ⟨g6, hf⟩ := zw_gcE hf (by decide)
    obtain ⟨i7, hf⟩ := zw_inE hf
    rcases zw_ifE hf with ⟨c8, hf⟩ | ⟨c8, hf⟩
    ·
      exact (fr_j_X11_tell_62 U hU v0 I J hv0 _ hf).tr hF
    ·
      obtain ⟨q12, hq12, hf⟩ := zw_bdE hf
      have hF := (fr_X11_fail U hU v0 2 I J hv0 _ hq12).tr hF
      exact (fr_j_X11_tell_62 U hU v0 q12 J hv0 _ hf).tr hF
  ·
    rcases zw_ifE hf with ⟨c13, hf⟩ | ⟨c13, hf⟩
    ·
      obtain ⟨g14, hf⟩ := zw_gcE hf (by decide)
      obtain ⟨i15, hf⟩ := zw_inE hf
      rcases zw_ifE hf with ⟨c16, hf⟩ | ⟨c16, hf⟩
      ·
        exact (fr_j_X11_tell_95 U hU v0 I J hv0 _ hf).tr hF
      ·
        obtain ⟨q22, hq22, hf⟩ := zw_bdE hf
        have hF := (fr_X11_fail U hU v0 2 I J hv0 _ hq22).tr hF
        exact (fr_j_X11_tell_95 U hU v0 q22 J hv0 _ hf).tr hF
    ·
      rcases zw_ifE hf with ⟨c23, hf⟩ | ⟨c23, hf⟩
      ·
        obtain ⟨g24, hf⟩ := zw_gcE hf (by decide)
        obtain ⟨i25, hf⟩ := zw_inE hf
        rcases zw_ifE hf with ⟨c26, hf⟩ | ⟨c26, hf⟩
        ·
          exact (fr_j_X11_tell_145 U hU v0 I J hv0 _ hf).tr hF
        ·
          obtain ⟨q32, hq32, hf⟩ := zw_bdE hf
          have hF := (fr_X11_fail U hU v0 2 I J hv0 _ hq32).tr hF
          exact (fr_j_X11_tell_145 U hU v0 q32 J hv0 _ hf).tr hF
      ·
        rcases zw_ifE hf with ⟨c33, hf⟩ | ⟨c33, hf⟩
        ·
          obtain ⟨g34, hf⟩ := zw_gcE hf (by decide)
          obtain ⟨i35, hf⟩ := zw_inE hf
          rcases zw_ifE hf with ⟨c36, hf⟩ | ⟨c36, hf⟩
          ·
            exact (fr_j_X11_tell_199 U hU v0 I J hv0 _ hf).tr hF
          ·
            obtain ⟨q42, hq42, hf⟩ := zw_bdE hf
            have hF := (fr_X11_fail U hU v0 2 I J hv0 _ hq42).tr hF
            exact (fr_j_X11_tell_199 U hU v0 q42 J hv0 _ hf).tr hF
        ·
          rcases zw_ifE hf with ⟨c43, hf⟩ | ⟨c43, hf⟩
          ·
            obtain ⟨g44, hf⟩ := zw_gcE hf (by decide)
            obtain ⟨i45, hf⟩ := zw_inE hf
            rcases zw_ifE hf with ⟨c46, hf⟩ | ⟨c46, hf⟩
            ·
              exact (fr_j_X11_tell_250 U hU v0 I J hv0 _ hf).tr hF
            ·
              obtain ⟨q52, hq52, hf⟩ := zw_bdE hf
              have hF := (fr_X11_fail U hU v0 2 I J hv0 _ hq52).tr hF
              exact (fr_j_X11_tell_250 U hU v0 q52 J hv0 _ hf).tr hF
          ·
            obtain ⟨q53, hq53, hf⟩ := zw_bdE hf
            have hF := (fr_X11_fail U hU v0 1 I J hv0 _ hq53).tr hF
            cases hf
            exact hF
def zp_X11_two_37 (I : zI) (J : zJ) (o : (Int32 × Int32 × zI) ⊕ (Int32 × zI)) : zI × zJ := match o with | .inl t => (t.2.2, J) | .inr r => (r.2, J)
def zp_X11_two_52 (I : zI) (J : zJ) (o : (Int32 × zI) ⊕ (zI)) : zI × zJ := match o with | .inl t => (t.2, J) | .inr r => (r, J)
theorem fr_j_X11_two_144_52 (U : Nat → Prop) {R : zR} (hU : ∀ o j, U o → U (R o j)) (v0 : Nat) (v1 : Int32) (v4 : Int32) (v5 : Int32) (v6 : Int32) (v7 : Int32) (s0 : Nat) (s1 : Int32) (s2 : Int32) (I : zI) (J : zJ) (hs0 : U s0) (o : (Int32 × zI) ⊕ (zI)) (hf : j_X11_two_144_52 v0 v1 v4 v5 v6 v7 s0 s1 s2 I R = some o) : zw_FR U (zp_X11_two_52 I J o).1 (I) (zp_X11_two_52 I J o).2 (J) := by
  have hF : zw_FR U I I J J := zw_FR.rf
  unfold j_X11_two_144_52 at hf
  obtain ⟨g25, hf⟩ := zw_gcE hf (by decide)
  obtain ⟨i26, hf⟩ := zw_inE hf
  obtain ⟨I27, eI27, hf⟩ := zw_letE hf
  have hF := hF.wI eI27 hs0
  obtain ⟨x28, ex28, hf⟩ := zw_letE hf
  cases hf
  exact hF
theorem fr_j_X11_two_104_52 (U : Nat → Prop) {R : zR} (hU : ∀ o j, U o → U (R o j)) (v0 : Nat) (v1 : Int32) (v4 : Int32) (v5 : Int32) (v6 : Int32) (v7 : Int32) (s0 : Nat) (s1 : Int32) (s2 : Int32) (I : zI) (J : zJ) (hv0 : U v0) (hs0 : U s0) (o : (Int32 × zI) ⊕ (zI)) (hf : j_X11_two_104_52 v0 v1 v4 v5 v6 v7 s0 s1 s2 I R = some o) : zw_FR U (zp_X11_two_52 I J o).1 (I) (zp_X11_two_52 I J o).2 (J) := by
  have hF : zw_FR U I I J J := zw_FR.rf
  unfold j_X11_two_104_52 at hf
  obtain ⟨g18, hf⟩ := zw_gcE hf (by decide)
  obtain ⟨i19, hf⟩ := zw_inE hf
  obtain ⟨I20, eI20, hf⟩ := zw_letE hf
  have hF := hF.wI eI20 hs0
  obtain ⟨g21, hf⟩ := zw_gcE hf (by decide)
  obtain ⟨g22, hf⟩ := zw_gcE hf (by decide)
  rcases zw_ifE hf with ⟨c23, hf⟩ | ⟨c23, hf⟩
  ·
    obtain ⟨q24, hq24, hf⟩ := zw_bdE hf
    exact (fr_j_X11_two_144_52 U hU v0 v1 v4 v5 v6 v7 (R v0 74) v7 q24 I20 J (hU _ _ hv0) _ hf).tr hF
  ·
    exact (fr_j_X11_two_144_52 U hU v0 v1 v4 v5 v6 v7 (R v0 74) v7 (-1) I20 J (hU _ _ hv0) _ hf).tr hF
theorem fr_s_X11_two_52 (U : Nat → Prop) {R : zR} (hU : ∀ o j, U o → U (R o j)) (v0 : Nat) (v1 : Int32) (v4 : Int32) (v5 : Int32) (v6 : Int32) (J : zJ) (hv0 : U v0) (s : Int32 × zI) (o : (Int32 × zI) ⊕ (zI)) (hf : s_X11_two_52 v0 v1 v4 v5 v6 R s = some o) : zw_FR U (zp_X11_two_52 s.2 J o).1 (s.2) (zp_X11_two_52 s.2 J o).2 (J) := by
  have hF : zw_FR U (s.2) (s.2) (J) (J) := zw_FR.rf
  unfold s_X11_two_52 at hf
  obtain ⟨g11, hf⟩ := zw_gcE hf (by decide)
  obtain ⟨g12, hf⟩ := zw_gcE hf (by decide)
  obtain ⟨i13, hf⟩ := zw_inE hf
  rcases zw_ifE hf with ⟨c14, hf⟩ | ⟨c14, hf⟩
  ·
    cases hf
    exact hF
  ·
    obtain ⟨g15, hf⟩ := zw_gcE hf (by decide)
    rcases zw_ifE hf with ⟨c16, hf⟩ | ⟨c16, hf⟩
    ·
      obtain ⟨q17, hq17, hf⟩ := zw_bdE hf
      exact (fr_j_X11_two_104_52 U hU v0 v1 v4 v5 v6 s.1 (R v0 73) s.1 q17 s.2 J hv0 (hU _ _ hv0) _ hf).tr hF
    ·
      exact (fr_j_X11_two_104_52 U hU v0 v1 v4 v5 v6 s.1 (R v0 73) s.1 (-1) s.2 J hv0 (hU _ _ hv0) _ hf).tr hF
theorem fr_s_X11_two_52_lp (U : Nat → Prop) {R : zR} (hU : ∀ o j, U o → U (R o j)) (v0 : Nat) (v1 : Int32) (v4 : Int32) (v5 : Int32) (v6 : Int32) (J : zJ) (hv0 : U v0) (n : Nat) (s : Int32 × zI) (r : zI) (h : zw_it (s_X11_two_52 v0 v1 v4 v5 v6 R) n s = some r) : zw_FR U (zp_X11_two_52 (s.2) (J) (.inr r)).1 (s.2) (zp_X11_two_52 (s.2) (J) (.inr r)).2 (J) :=
  zw_itF (A := fun t t0 : Int32 × zI => zw_FR U (t.2) (t0.2) (J) (J)) (Q := fun (r : zI) (t : Int32 × zI) => zw_FR U (zp_X11_two_52 (t.2) (J) (.inr r)).1 (t.2) (zp_X11_two_52 (t.2) (J) (.inr r)).2 (J)) (fun s o h1 => by
    have h2 := fr_s_X11_two_52 U hU v0 v1 v4 v5 v6 J hv0 s o h1
    cases o with
    | inl t => exact h2
    | inr r => exact h2) (fun h1 h2 => zw_FR.tr h2 h1) n s r h
def zp_X11_two_154 (I : zI) (J : zJ) (o : (Int32 × Int32 × zI) ⊕ (Int32 × zI)) : zI × zJ := match o with | .inl t => (t.2.2, J) | .inr r => (r.2, J)
def zp_X11_two_171 (I : zI) (J : zJ) (o : (Int32 × Int32 × zI) ⊕ (Int32 × zI)) : zI × zJ := match o with | .inl t => (t.2.2, J) | .inr r => (r.2, J)
theorem fr_j_X11_two_348_171 (U : Nat → Prop) {R : zR} (hU : ∀ o j, U o → U (R o j)) (v0 : Nat) (v1 : Int32) (v4 : Int32) (v5 : Int32) (v6 : Int32) (v7 : Int32) (v8 : Int32) (I : zI) (J : zJ)  (o : (Int32 × Int32 × zI) ⊕ (Int32 × zI)) (hf : j_X11_two_348_171 v0 v1 v4 v5 v6 v7 v8 I R = some o) : zw_FR U (zp_X11_two_171 I J o).1 (I) (zp_X11_two_171 I J o).2 (J) := by
  have hF : zw_FR U I I J J := zw_FR.rf
  unfold j_X11_two_348_171 at hf
  obtain ⟨x41, ex41, hf⟩ := zw_letE hf
  cases hf
  exact hF
theorem fr_j_X11_two_237_171 (U : Nat → Prop) {R : zR} (hU : ∀ o j, U o → U (R o j)) (v0 : Nat) (v1 : Int32) (v5 : Int32) (v6 : Int32) (v7 : Int32) (v8 : Int32) (I : zI) (J : zJ) (hv0 : U v0) (o : (Int32 × Int32 × zI) ⊕ (Int32 × zI)) (hf : j_X11_two_237_171 v0 v1 v5 v6 v7 v8 I R = some o) : zw_FR U (zp_X11_two_171 I J o).1 (I) (zp_X11_two_171 I J o).2 (J) := by
  have hF : zw_FR U I I J J := zw_FR.rf
  unfold j_X11_two_237_171 at hf
  obtain ⟨g46, hf⟩ := zw_gcE hf (by decide)
  obtain ⟨g47, hf⟩ := zw_gcE hf (by decide)
  obtain ⟨i48, hf⟩ := zw_inE hf
  obtain ⟨i49, hf⟩ := zw_inE hf
  obtain ⟨x50, ex50, hf⟩ := zw_letE hf
  obtain ⟨I51, eI51, hf⟩ := zw_letE hf
  have hF := hF.wI eI51 hv0
  obtain ⟨g52, hf⟩ := zw_gcE hf (by decide)
  obtain ⟨i53, hf⟩ := zw_inE hf
  obtain ⟨I54, eI54, hf⟩ := zw_letE hf
  have hF := hF.wI eI54 (hU _ _ hv0)
  obtain ⟨i55, hf⟩ := zw_inE hf
  obtain ⟨I56, eI56, hf⟩ := zw_letE hf
  have hF := hF.wI eI56 (hU _ _ hv0)
  obtain ⟨g57, hf⟩ := zw_gcE hf (by decide)
  obtain ⟨i58, hf⟩ := zw_inE hf
  obtain ⟨i59, hf⟩ := zw_inE hf
  obtain ⟨I60, eI60, hf⟩ := zw_letE hf
  have hF := hF.wI eI60 (hU _ _ hv0)
  obtain ⟨i61, hf⟩ := zw_inE hf
  obtain ⟨i62, hf⟩ := zw_inE hf
  obtain ⟨I63, eI63, hf⟩ := zw_letE hf
  have hF := hF.wI eI63 (hU _ _ hv0)
  obtain ⟨i64, hf⟩ := zw_inE hf
  obtain ⟨I65, eI65, hf⟩ := zw_letE hf
  have hF := hF.wI eI65 (hU _ _ hv0)
  obtain ⟨g66, hf⟩ := zw_gcE hf (by decide)
  obtain ⟨i67, hf⟩ := zw_inE hf
  obtain ⟨i68, hf⟩ := zw_inE hf
  obtain ⟨I69, eI69, hf⟩ := zw_letE hf
  have hF := hF.wI eI69 (hU _ _ hv0)
  obtain ⟨i70, hf⟩ := zw_inE hf
  obtain ⟨i71, hf⟩ := zw_inE hf
  obtain ⟨I72, eI72, hf⟩ := zw_letE hf
  have hF := hF.wI eI72 (hU _ _ hv0)
  exact (fr_j_X11_two_348_171 U hU v0 v1 x50 v5 v6 v7 v8 I72 J  _ hf).tr hF
theorem fr_s_X11_two_171 (U : Nat → Prop) {R : zR} (hU : ∀ o j, U o → U (R o j)) (v0 : Nat) (v1 : Int32) (v5 : Int32) (v6 : Int32) (v7 : Int32) (J : zJ) (hv0 : U v0) (s : Int32 × Int32 × zI) (o : (Int32 × Int32 × zI) ⊕ (Int32 × zI)) (hf : s_X11_two_171 v0 v1 v5 v6 v7 R s = some o) : zw_FR U (zp_X11_two_171 s.2.2 J o).1 (s.2.2) (zp_X11_two_171 s.2.2 J o).2 (J) := by
  have hF : zw_FR U (s.2.2) (s.2.2) (J) (J) := zw_FR.rf
  unfold s_X11_two_171 at hf
  obtain ⟨g34, hf⟩ := zw_gcE hf (by decide)
  obtain ⟨g35, hf⟩ := zw_gcE hf (by decide)
  obtain ⟨i36, hf⟩ := zw_inE hf
  rcases zw_ifE hf with ⟨c37, hf⟩ | ⟨c37, hf⟩
  ·
    cases hf
    exact hF
  ·
    obtain ⟨g38, hf⟩ := zw_gcE hf (by decide)
    obtain ⟨i39, hf⟩ := zw_inE hf
    rcases zw_ifE hf with ⟨c40, hf⟩ | ⟨c40, hf⟩
    ·
      exact (fr_j_X11_two_348_171 U hU v0 v1 s.1 v5 v6 v7 s.2.1 s.2.2 J  _ hf).tr hF
    ·
      obtain ⟨g42, hf⟩ := zw_gcE hf (by decide)
      obtain ⟨i43, hf⟩ := zw_inE hf
      rcases zw_ifE hf with ⟨c44, hf⟩ | ⟨c44, hf⟩
      ·
        exact (fr_j_X11_two_348_171 U hU v0 v1 s.1 v5 v6 v7 s.2.1 s.2.2 J  _ hf).tr hF
      ·
        rcases zw_ifE hf with ⟨c45, hf⟩ | ⟨c45, hf⟩
        ·
          exact (fr_j_X11_two_237_171 U hU v0 v1 v5 v6 v7 s.2.1 s.2.2 J hv0 _ hf).tr hF
        ·
          obtain ⟨g73, hf⟩ := zw_gcE hf (by decide)
          obtain ⟨i74, hf⟩ := zw_inE hf
          obtain ⟨i75, hf⟩ := zw_inE hf
          rcases zw_ifE hf with ⟨c76, hf⟩ | ⟨c76, hf⟩
          ·
            exact (fr_j_X11_two_237_171 U hU v0 v1 v5 v6 v7 s.2.1 s.2.2 J hv0 _ hf).tr hF
          ·
            exact (fr_j_X11_two_348_171 U hU v0 v1 s.1 v5 v6 v7 s.2.1 s.2.2 J  _ hf).tr hF
theorem fr_s_X11_two_171_lp (U : Nat → Prop) {R : zR} (hU : ∀ o j, U o → U (R o j)) (v0 : Nat) (v1 : Int32) (v5 : Int32) (v6 : Int32) (v7 : Int32) (J : zJ) (hv0 : U v0) (n : Nat) (s : Int32 × Int32 × zI) (r : Int32 × zI) (h : zw_it (s_X11_two_171 v0 v1 v5 v6 v7 R) n s = some r) : zw_FR U (zp_X11_two_171 (s.2.2) (J) (.inr r)).1 (s.2.2) (zp_X11_two_171 (s.2.2) (J) (.inr r)).2 (J) :=
  zw_itF (A := fun t t0 : Int32 × Int32 × zI => zw_FR U (t.2.2) (t0.2.2) (J) (J)) (Q := fun (r : Int32 × zI) (t : Int32 × Int32 × zI) => zw_FR U (zp_X11_two_171 (t.2.2) (J) (.inr r)).1 (t.2.2) (zp_X11_two_171 (t.2.2) (J) (.inr r)).2 (J)) (fun s o h1 => by
    have h2 := fr_s_X11_two_171 U hU v0 v1 v5 v6 v7 J hv0 s o h1
    cases o with
    | inl t => exact h2
    | inr r => exact h2) (fun h1 h2 => zw_FR.tr h2 h1) n s r h
theorem fr_s_X11_two_154 (U : Nat → Prop) {R : zR} (hU : ∀ o j, U o → U (R o j)) (v0 : Nat) (v1 : Int32) (v5 : Int32) (v6 : Int32) (J : zJ) (hv0 : U v0) (s : Int32 × Int32 × zI) (o : (Int32 × Int32 × zI) ⊕ (Int32 × zI)) (hf : s_X11_two_154 v0 v1 v5 v6 R s = some o) : zw_FR U (zp_X11_two_154 s.2.2 J o).1 (s.2.2) (zp_X11_two_154 s.2.2 J o).2 (J) := by
  have hF : zw_FR U (s.2.2) (s.2.2) (J) (J) := zw_FR.rf
  unfold s_X11_two_154 at hf
  obtain ⟨g30, hf⟩ := zw_gcE hf (by decide)
  obtain ⟨g31, hf⟩ := zw_gcE hf (by decide)
  obtain ⟨i32, hf⟩ := zw_inE hf
  rcases zw_ifE hf with ⟨c33, hf⟩ | ⟨c33, hf⟩
  ·
    cases hf
    exact hF
  ·
    obtain ⟨q77, hq77, hf⟩ := zw_bdE hf
    have hF := (fr_s_X11_two_171_lp U hU v0 v1 v5 v6 s.2.1 J hv0 _ _ _ hq77).tr hF
    obtain ⟨x78, ex78, hf⟩ := zw_letE hf
    cases hf
    exact hF
theorem fr_s_X11_two_154_lp (U : Nat → Prop) {R : zR} (hU : ∀ o j, U o → U (R o j)) (v0 : Nat) (v1 : Int32) (v5 : Int32) (v6 : Int32) (J : zJ) (hv0 : U v0) (n : Nat) (s : Int32 × Int32 × zI) (r : Int32 × zI) (h : zw_it (s_X11_two_154 v0 v1 v5 v6 R) n s = some r) : zw_FR U (zp_X11_two_154 (s.2.2) (J) (.inr r)).1 (s.2.2) (zp_X11_two_154 (s.2.2) (J) (.inr r)).2 (J) :=
  zw_itF (A := fun t t0 : Int32 × Int32 × zI => zw_FR U (t.2.2) (t0.2.2) (J) (J)) (Q := fun (r : Int32 × zI) (t : Int32 × Int32 × zI) => zw_FR U (zp_X11_two_154 (t.2.2) (J) (.inr r)).1 (t.2.2) (zp_X11_two_154 (t.2.2) (J) (.inr r)).2 (J)) (fun s o h1 => by
    have h2 := fr_s_X11_two_154 U hU v0 v1 v5 v6 J hv0 s o h1
    cases o with
    | inl t => exact h2
    | inr r => exact h2) (fun h1 h2 => zw_FR.tr h2 h1) n s r h
theorem fr_s_X11_two_37 (U : Nat → Prop) {R : zR} (hU : ∀ o j, U o → U (R o j)) (v0 : Nat) (v1 : Int32) (v5 : Int32) (J : zJ) (hv0 : U v0) (s : Int32 × Int32 × zI) (o : (Int32 × Int32 × zI) ⊕ (Int32 × zI)) (hf : s_X11_two_37 v0 v1 v5 R s = some o) : zw_FR U (zp_X11_two_37 s.2.2 J o).1 (s.2.2) (zp_X11_two_37 s.2.2 J o).2 (J) := by
  have hF : zw_FR U (s.2.2) (s.2.2) (J) (J) := zw_FR.rf
  unfold s_X11_two_37 at hf
  obtain ⟨g7, hf⟩ := zw_gcE hf (by decide)
  obtain ⟨g8, hf⟩ := zw_gcE hf (by decide)
  obtain ⟨i9, hf⟩ := zw_inE hf
  rcases zw_ifE hf with ⟨c10, hf⟩ | ⟨c10, hf⟩
  ·
    cases hf
    exact hF
  ·
    obtain ⟨q29, hq29, hf⟩ := zw_bdE hf
    have hF := (fr_s_X11_two_52_lp U hU v0 v1 s.1 v5 s.2.1 J hv0 _ _ _ hq29).tr hF
    obtain ⟨q79, hq79, hf⟩ := zw_bdE hf
    have hF := (fr_s_X11_two_154_lp U hU v0 v1 v5 s.2.1 J hv0 _ _ _ hq79).tr hF
    obtain ⟨x80, ex80, hf⟩ := zw_letE hf
    cases hf
    exact hF
theorem fr_s_X11_two_37_lp (U : Nat → Prop) {R : zR} (hU : ∀ o j, U o → U (R o j)) (v0 : Nat) (v1 : Int32) (v5 : Int32) (J : zJ) (hv0 : U v0) (n : Nat) (s : Int32 × Int32 × zI) (r : Int32 × zI) (h : zw_it (s_X11_two_37 v0 v1 v5 R) n s = some r) : zw_FR U (zp_X11_two_37 (s.2.2) (J) (.inr r)).1 (s.2.2) (zp_X11_two_37 (s.2.2) (J) (.inr r)).2 (J) :=
  zw_itF (A := fun t t0 : Int32 × Int32 × zI => zw_FR U (t.2.2) (t0.2.2) (J) (J)) (Q := fun (r : Int32 × zI) (t : Int32 × Int32 × zI) => zw_FR U (zp_X11_two_37 (t.2.2) (J) (.inr r)).1 (t.2.2) (zp_X11_two_37 (t.2.2) (J) (.inr r)).2 (J)) (fun s o h1 => by
    have h2 := fr_s_X11_two_37 U hU v0 v1 v5 J hv0 s o h1
    cases o with
    | inl t => exact h2
    | inr r => exact h2) (fun h1 h2 => zw_FR.tr h2 h1) n s r h
theorem fr_X11_two (U : Nat → Prop) {R : zR} (hU : ∀ o j, U o → U (R o j)) (v0 : Nat) (v1 : Int32) (v2 : Int32) (v3 : Int32) (I : zI) (J : zJ) (hv0 : U v0) (o : Int32 × zI) (hf : f_X11_two v0 v1 v2 v3 I R = some o) : zw_FR U (o.2) (I) (J) (J) := by
  have hF : zw_FR U I I J J := zw_FR.rf
  unfold f_X11_two at hf
  obtain ⟨g1, hf⟩ := zw_gcE hf (by decide)
  obtain ⟨q2, hq2, hf⟩ := zw_bdE hf
  rcases zw_ifE hf with ⟨c3, hf⟩ | ⟨c3, hf⟩
  ·
    obtain ⟨q4, hq4, hf⟩ := zw_bdE hf
    have hF := (fr_X11_prices U hU v0 v1 v3 I J hv0 _ hq4).tr hF
    obtain ⟨I5, eI5, hf⟩ := zw_letE hf
    have hF := hF.wI eI5 hv0
    obtain ⟨q6, hq6, hf⟩ := zw_bdE hf
    obtain ⟨q81, hq81, hf⟩ := zw_bdE hf
    have hF := (fr_s_X11_two_37_lp U hU v0 v1 q6 J hv0 _ _ _ hq81).tr hF
    cases hf
    exact hF
  ·
    cases hf
    exact hF
def zp_X8_keepWord_31 (I : zI) (J : zJ) (o : (Int32 × zJ) ⊕ (zJ)) : zI × zJ := match o with | .inl t => (I, t.2) | .inr r => (I, r)
theorem fr_s_X8_keepWord_31 (U : Nat → Prop) {R : zR} (hU : ∀ o j, U o → U (R o j)) (v0 : Nat) (v1 : Int32) (v3 : Int32) (I : zI) (hv0 : U v0) (s : Int32 × zJ) (o : (Int32 × zJ) ⊕ (zJ)) (hf : s_X8_keepWord_31 v0 v1 v3 I R s = some o) : zw_FR U (zp_X8_keepWord_31 I s.2 o).1 (I) (zp_X8_keepWord_31 I s.2 o).2 (s.2) := by
  have hF : zw_FR U (I) (I) (s.2) (s.2) := zw_FR.rf
  unfold s_X8_keepWord_31 at hf
  rcases zw_ifE hf with ⟨c7, hf⟩ | ⟨c7, hf⟩
  ·
    cases hf
    exact hF
  ·
    obtain ⟨g8, hf⟩ := zw_gcE hf (by decide)
    obtain ⟨g9, hf⟩ := zw_gcE hf (by decide)
    obtain ⟨i10, hf⟩ := zw_inE hf
    obtain ⟨q11, hq11, hf⟩ := zw_bdE hf
    obtain ⟨i12, hf⟩ := zw_inE hf
    obtain ⟨J13, eJ13, hf⟩ := zw_letE hf
    have hF := hF.wJ eJ13 (hU _ _ hv0)
    obtain ⟨x14, ex14, hf⟩ := zw_letE hf
    cases hf
    exact hF
theorem fr_s_X8_keepWord_31_lp (U : Nat → Prop) {R : zR} (hU : ∀ o j, U o → U (R o j)) (v0 : Nat) (v1 : Int32) (v3 : Int32) (I : zI) (hv0 : U v0) (n : Nat) (s : Int32 × zJ) (r : zJ) (h : zw_it (s_X8_keepWord_31 v0 v1 v3 I R) n s = some r) : zw_FR U (zp_X8_keepWord_31 (I) (s.2) (.inr r)).1 (I) (zp_X8_keepWord_31 (I) (s.2) (.inr r)).2 (s.2) :=
  zw_itF (A := fun t t0 : Int32 × zJ => zw_FR U (I) (I) (t.2) (t0.2)) (Q := fun (r : zJ) (t : Int32 × zJ) => zw_FR U (zp_X8_keepWord_31 (I) (t.2) (.inr r)).1 (I) (zp_X8_keepWord_31 (I) (t.2) (.inr r)).2 (t.2)) (fun s o h1 => by
    have h2 := fr_s_X8_keepWord_31 U hU v0 v1 v3 I hv0 s o h1
    cases o with
    | inl t => exact h2
    | inr r => exact h2) (fun h1 h2 => zw_FR.tr h2 h1) n s r h
theorem fr_X8_keepWord (U : Nat → Prop) {R : zR} (hU : ∀ o j, U o → U (R o j)) (v0 : Nat) (v1 : Int32) (v2 : Int32) (v3 : Int32) (I : zI) (J : zJ) (hv0 : U v0) (o : zI × zJ) (hf : f_X8_keepWord v0 v1 v2 v3 I R J = some o) : zw_FR U (o.1) (I) (o.2) (J) := by
  have hF : zw_FR U I I J J := zw_FR.rf
  unfold f_X8_keepWord at hf
  rcases zw_ifE hf with ⟨c1, hf⟩ | ⟨c1, hf⟩
  ·
    obtain ⟨g2, hf⟩ := zw_gcE hf (by decide)
    obtain ⟨g3, hf⟩ := zw_gcE hf (by decide)
    obtain ⟨q4, hq4, hf⟩ := zw_bdE hf
    obtain ⟨i5, hf⟩ := zw_inE hf
    obtain ⟨I6, eI6, hf⟩ := zw_letE hf
    have hF := hF.wI eI6 (hU _ _ hv0)
    obtain ⟨q15, hq15, hf⟩ := zw_bdE hf
    have hF := (fr_s_X8_keepWord_31_lp U hU v0 v1 v3 I6 hv0 _ _ _ hq15).tr hF
    cases hf
    exact hF
  ·
    obtain ⟨g16, hf⟩ := zw_gcE hf (by decide)
    obtain ⟨g17, hf⟩ := zw_gcE hf (by decide)
    obtain ⟨i18, hf⟩ := zw_inE hf
    obtain ⟨I19, eI19, hf⟩ := zw_letE hf
    have hF := hF.wI eI19 (hU _ _ hv0)
    cases hf
    exact hF
theorem fr_X10_left (U : Nat → Prop) {R : zR} (hU : ∀ o j, U o → U (R o j)) (v0 : Nat) (v1 : Int32) (I : zI) (J : zJ) (hv0 : U v0) (o : Int32 × zI) (hf : f_X10_left v0 v1 I R = some o) : zw_FR U (o.2) (I) (J) (J) := by
  have hF : zw_FR U I I J J := zw_FR.rf
  unfold f_X10_left at hf
  obtain ⟨g1, hf⟩ := zw_gcE hf (by decide)
  obtain ⟨g2, hf⟩ := zw_gcE hf (by decide)
  obtain ⟨q3, hq3, hf⟩ := zw_bdE hf
  rcases zw_ifE hf with ⟨c4, hf⟩ | ⟨c4, hf⟩
  ·
    cases hf
    exact hF
  ·
    obtain ⟨q5, hq5, hf⟩ := zw_bdE hf
    have hF := (fr_X10_openStuffs U hU v0 v1 I J hv0 _ hq5).tr hF
    cases hf
    exact hF
def zp_X10_next_39 (I : zI) (J : zJ) (o : (Int32 × Int32 × Int32 × zI) ⊕ (Int32 × zI)) : zI × zJ := match o with | .inl t => (t.2.2.2, J) | .inr r => (r.2, J)
theorem fr_j_X10_next_82_39 (U : Nat → Prop) {R : zR} (hU : ∀ o j, U o → U (R o j)) (v0 : Nat) (v2 : Int32) (v3 : Int32) (v4 : Int32) (v5 : Int32) (I : zI) (J : zJ)  (o : (Int32 × Int32 × Int32 × zI) ⊕ (Int32 × zI)) (hf : j_X10_next_82_39 v0 v2 v3 v4 v5 I R = some o) : zw_FR U (zp_X10_next_39 I J o).1 (I) (zp_X10_next_39 I J o).2 (J) := by
  have hF : zw_FR U I I J J := zw_FR.rf
  unfold j_X10_next_82_39 at hf
  obtain ⟨x13, ex13, hf⟩ := zw_letE hf
  cases hf
  exact hF
theorem fr_s_X10_next_39 (U : Nat → Prop) {R : zR} (hU : ∀ o j, U o → U (R o j)) (v0 : Nat) (v2 : Int32) (J : zJ) (hv0 : U v0) (s : Int32 × Int32 × Int32 × zI) (o : (Int32 × Int32 × Int32 × zI) ⊕ (Int32 × zI)) (hf : s_X10_next_39 v0 v2 R s = some o) : zw_FR U (zp_X10_next_39 s.2.2.2 J o).1 (s.2.2.2) (zp_X10_next_39 s.2.2.2 J o).2 (J) := by
  have hF : zw_FR U (s.2.2.2) (s.2.2.2) (J) (J) := zw_FR.rf
  unfold s_X10_next_39 at hf
  obtain ⟨g8, hf⟩ := zw_gcE hf (by decide)
  obtain ⟨g9, hf⟩ := zw_gcE hf (by decide)
  rcases zw_ifE hf with ⟨c10, hf⟩ | ⟨c10, hf⟩
  ·
    cases hf
    exact hF
  ·
    obtain ⟨q11, hq11, hf⟩ := zw_bdE hf
    have hF := (fr_X10_spread U hU v0 (s.2.2.1 / 4) (s.2.2.1 - s.2.2.1 / 4 * 4) v2 s.2.2.2 J hv0 _ hq11).tr hF
    rcases zw_ifE hf with ⟨c12, hf⟩ | ⟨c12, hf⟩
    ·
      exact (fr_j_X10_next_82_39 U hU v0 v2 s.1 s.2.1 s.2.2.1 q11.2 J  _ hf).tr hF
    ·
      exact (fr_j_X10_next_82_39 U hU v0 v2 s.2.2.1 q11.1 s.2.2.1 q11.2 J  _ hf).tr hF
theorem fr_s_X10_next_39_lp (U : Nat → Prop) {R : zR} (hU : ∀ o j, U o → U (R o j)) (v0 : Nat) (v2 : Int32) (J : zJ) (hv0 : U v0) (n : Nat) (s : Int32 × Int32 × Int32 × zI) (r : Int32 × zI) (h : zw_it (s_X10_next_39 v0 v2 R) n s = some r) : zw_FR U (zp_X10_next_39 (s.2.2.2) (J) (.inr r)).1 (s.2.2.2) (zp_X10_next_39 (s.2.2.2) (J) (.inr r)).2 (J) :=
  zw_itF (A := fun t t0 : Int32 × Int32 × Int32 × zI => zw_FR U (t.2.2.2) (t0.2.2.2) (J) (J)) (Q := fun (r : Int32 × zI) (t : Int32 × Int32 × Int32 × zI) => zw_FR U (zp_X10_next_39 (t.2.2.2) (J) (.inr r)).1 (t.2.2.2) (zp_X10_next_39 (t.2.2.2) (J) (.inr r)).2 (J)) (fun s o h1 => by
    have h2 := fr_s_X10_next_39 U hU v0 v2 J hv0 s o h1
    cases o with
    | inl t => exact h2
    | inr r => exact h2) (fun h1 h2 => zw_FR.tr h2 h1) n s r h
theorem fr_X10_next (U : Nat → Prop) {R : zR} (hU : ∀ o j, U o → U (R o j)) (v0 : Nat) (v1 : Int32) (I : zI) (J : zJ) (hv0 : U v0) (o : Int32 × zI) (hf : f_X10_next v0 v1 I R = some o) : zw_FR U (o.2) (I) (J) (J) := by
  have hF : zw_FR U I I J J := zw_FR.rf
  unfold f_X10_next at hf
  obtain ⟨g1, hf⟩ := zw_gcE hf (by decide)
  obtain ⟨g2, hf⟩ := zw_gcE hf (by decide)
  obtain ⟨q3, hq3, hf⟩ := zw_bdE hf
  rcases zw_ifE hf with ⟨c4, hf⟩ | ⟨c4, hf⟩
  ·
    obtain ⟨q5, hq5, hf⟩ := zw_bdE hf
    have hF := (fr_X10_openStuffs U hU v0 v1 I J hv0 _ hq5).tr hF
    obtain ⟨q6, hq6, hf⟩ := zw_bdE hf
    rcases zw_ifE hf with ⟨c7, hf⟩ | ⟨c7, hf⟩
    ·
      obtain ⟨q14, hq14, hf⟩ := zw_bdE hf
      have hF := (fr_s_X10_next_39_lp U hU v0 q5.1 J hv0 _ _ _ hq14).tr hF
      cases hf
      exact hF
    ·
      cases hf
      exact hF
  ·
    cases hf
    exact hF
theorem fr_X11_barred (U : Nat → Prop) {R : zR} (hU : ∀ o j, U o → U (R o j)) (v0 : Nat) (v1 : Int32) (v2 : Int32) (I : zI) (J : zJ) (hv0 : U v0) (o : Int32 × zI) (hf : f_X11_barred v0 v1 v2 I R = some o) : zw_FR U (o.2) (I) (J) (J) := by
  have hF : zw_FR U I I J J := zw_FR.rf
  unfold f_X11_barred at hf
  obtain ⟨g1, hf⟩ := zw_gcE hf (by decide)
  obtain ⟨q2, hq2, hf⟩ := zw_bdE hf
  rcases zw_ifE hf with ⟨c3, hf⟩ | ⟨c3, hf⟩
  ·
    cases hf
    exact hF
  ·
    obtain ⟨q4, hq4, hf⟩ := zw_bdE hf
    rcases zw_ifE hf with ⟨c5, hf⟩ | ⟨c5, hf⟩
    ·
      obtain ⟨q6, hq6, hf⟩ := zw_bdE hf
      have hF := (fr_X11_barredBy U hU v0 v1 v2 I J hv0 _ hq6).tr hF
      rcases zw_ifE hf with ⟨c7, hf⟩ | ⟨c7, hf⟩
      ·
        cases hf
        exact hF
      ·
        cases hf
        exact hF
    ·
      cases hf
      exact hF
def zp_X11_leftBy_4 (I : zI) (J : zJ) (o : (Int32 × Int32 × zI) ⊕ (Int32 × zI)) : zI × zJ := match o with | .inl t => (t.2.2, J) | .inr r => (r.2, J)
theorem fr_j_X11_leftBy_33_4 (U : Nat → Prop) {R : zR} (hU : ∀ o j, U o → U (R o j)) (v0 : Nat) (v1 : Int32) (v2 : Int32) (v3 : Int32) (I : zI) (J : zJ)  (o : (Int32 × Int32 × zI) ⊕ (Int32 × zI)) (hf : j_X11_leftBy_33_4 v0 v1 v2 v3 I R = some o) : zw_FR U (zp_X11_leftBy_4 I J o).1 (I) (zp_X11_leftBy_4 I J o).2 (J) := by
  have hF : zw_FR U I I J J := zw_FR.rf
  unfold j_X11_leftBy_33_4 at hf
  obtain ⟨x7, ex7, hf⟩ := zw_letE hf
  cases hf
  exact hF
theorem fr_s_X11_leftBy_4 (U : Nat → Prop) {R : zR} (hU : ∀ o j, U o → U (R o j)) (v0 : Nat) (v1 : Int32) (J : zJ) (hv0 : U v0) (s : Int32 × Int32 × zI) (o : (Int32 × Int32 × zI) ⊕ (Int32 × zI)) (hf : s_X11_leftBy_4 v0 v1 R s = some o) : zw_FR U (zp_X11_leftBy_4 s.2.2 J o).1 (s.2.2) (zp_X11_leftBy_4 s.2.2 J o).2 (J) := by
  have hF : zw_FR U (s.2.2) (s.2.2) (J) (J) := zw_FR.rf
  unfold s_X11_leftBy_4 at hf
  obtain ⟨g1, hf⟩ := zw_gcE hf (by decide)
  obtain ⟨g2, hf⟩ := zw_gcE hf (by decide)
  obtain ⟨i3, hf⟩ := zw_inE hf
  rcases zw_ifE hf with ⟨c4, hf⟩ | ⟨c4, hf⟩
  ·
    cases hf
    exact hF
  ·
    obtain ⟨q5, hq5, hf⟩ := zw_bdE hf
    have hF := (fr_X11_barredBy U hU v0 s.2.1 v1 s.2.2 J hv0 _ hq5).tr hF
    rcases zw_ifE hf with ⟨c6, hf⟩ | ⟨c6, hf⟩
    ·
      exact (fr_j_X11_leftBy_33_4 U hU v0 v1 s.1 s.2.1 q5.2 J  _ hf).tr hF
    ·
      obtain ⟨x8, ex8, hf⟩ := zw_letE hf
      exact (fr_j_X11_leftBy_33_4 U hU v0 v1 x8 s.2.1 q5.2 J  _ hf).tr hF
theorem fr_s_X11_leftBy_4_lp (U : Nat → Prop) {R : zR} (hU : ∀ o j, U o → U (R o j)) (v0 : Nat) (v1 : Int32) (J : zJ) (hv0 : U v0) (n : Nat) (s : Int32 × Int32 × zI) (r : Int32 × zI) (h : zw_it (s_X11_leftBy_4 v0 v1 R) n s = some r) : zw_FR U (zp_X11_leftBy_4 (s.2.2) (J) (.inr r)).1 (s.2.2) (zp_X11_leftBy_4 (s.2.2) (J) (.inr r)).2 (J) :=
  zw_itF (A := fun t t0 : Int32 × Int32 × zI => zw_FR U (t.2.2) (t0.2.2) (J) (J)) (Q := fun (r : Int32 × zI) (t : Int32 × Int32 × zI) => zw_FR U (zp_X11_leftBy_4 (t.2.2) (J) (.inr r)).1 (t.2.2) (zp_X11_leftBy_4 (t.2.2) (J) (.inr r)).2 (J)) (fun s o h1 => by
    have h2 := fr_s_X11_leftBy_4 U hU v0 v1 J hv0 s o h1
    cases o with
    | inl t => exact h2
    | inr r => exact h2) (fun h1 h2 => zw_FR.tr h2 h1) n s r h
theorem fr_X11_leftBy (U : Nat → Prop) {R : zR} (hU : ∀ o j, U o → U (R o j)) (v0 : Nat) (v1 : Int32) (I : zI) (J : zJ) (hv0 : U v0) (o : Int32 × zI) (hf : f_X11_leftBy v0 v1 I R = some o) : zw_FR U (o.2) (I) (J) (J) := by
  have hF : zw_FR U I I J J := zw_FR.rf
  unfold f_X11_leftBy at hf
  obtain ⟨q9, hq9, hf⟩ := zw_bdE hf
  have hF := (fr_s_X11_leftBy_4_lp U hU v0 v1 J hv0 _ _ _ hq9).tr hF
  cases hf
  exact hF
def zp_X11_read_10 (I : zI) (J : zJ) (o : (Int32 × zI) ⊕ (zI)) : zI × zJ := match o with | .inl t => (t.2, J) | .inr r => (r, J)
theorem fr_s_X11_read_10 (U : Nat → Prop) {R : zR} (hU : ∀ o j, U o → U (R o j)) (v0 : Nat) (J : zJ) (hv0 : U v0) (s : Int32 × zI) (o : (Int32 × zI) ⊕ (zI)) (hf : s_X11_read_10 v0 R J s = some o) : zw_FR U (zp_X11_read_10 s.2 J o).1 (s.2) (zp_X11_read_10 s.2 J o).2 (J) := by
  have hF : zw_FR U (s.2) (s.2) (J) (J) := zw_FR.rf
  unfold s_X11_read_10 at hf
  obtain ⟨g3, hf⟩ := zw_gcE hf (by decide)
  rcases zw_ifE hf with ⟨c4, hf⟩ | ⟨c4, hf⟩
  ·
    cases hf
    exact hF
  ·
    obtain ⟨g5, hf⟩ := zw_gcE hf (by decide)
    obtain ⟨g6, hf⟩ := zw_gcE hf (by decide)
    obtain ⟨i7, hf⟩ := zw_inE hf
    obtain ⟨i8, hf⟩ := zw_inE hf
    obtain ⟨I9, eI9, hf⟩ := zw_letE hf
    have hF := hF.wI eI9 (hU _ _ hv0)
    obtain ⟨x10, ex10, hf⟩ := zw_letE hf
    cases hf
    exact hF
theorem fr_s_X11_read_10_lp (U : Nat → Prop) {R : zR} (hU : ∀ o j, U o → U (R o j)) (v0 : Nat) (J : zJ) (hv0 : U v0) (n : Nat) (s : Int32 × zI) (r : zI) (h : zw_it (s_X11_read_10 v0 R J) n s = some r) : zw_FR U (zp_X11_read_10 (s.2) (J) (.inr r)).1 (s.2) (zp_X11_read_10 (s.2) (J) (.inr r)).2 (J) :=
  zw_itF (A := fun t t0 : Int32 × zI => zw_FR U (t.2) (t0.2) (J) (J)) (Q := fun (r : zI) (t : Int32 × zI) => zw_FR U (zp_X11_read_10 (t.2) (J) (.inr r)).1 (t.2) (zp_X11_read_10 (t.2) (J) (.inr r)).2 (J)) (fun s o h1 => by
    have h2 := fr_s_X11_read_10 U hU v0 J hv0 s o h1
    cases o with
    | inl t => exact h2
    | inr r => exact h2) (fun h1 h2 => zw_FR.tr h2 h1) n s r h
def zp_X11_read_159 (I : zI) (J : zJ) (o : (zI × zJ) ⊕ (zI × zJ)) : zI × zJ := match o with | .inl t => (t.1, t.2) | .inr r => (r.1, r.2)
theorem fr_s_X11_read_159 (U : Nat → Prop) {R : zR} (hU : ∀ o j, U o → U (R o j)) (v0 : Nat)  (hv0 : U v0) (s : zI × zJ) (o : (zI × zJ) ⊕ (zI × zJ)) (hf : s_X11_read_159 v0 R s = some o) : zw_FR U (zp_X11_read_159 s.1 s.2 o).1 (s.1) (zp_X11_read_159 s.1 s.2 o).2 (s.2) := by
  have hF : zw_FR U (s.1) (s.1) (s.2) (s.2) := zw_FR.rf
  unfold s_X11_read_159 at hf
  obtain ⟨g39, hf⟩ := zw_gcE hf (by decide)
  rcases zw_ifE hf with ⟨c40, hf⟩ | ⟨c40, hf⟩
  ·
    cases hf
    exact hF
  ·
    obtain ⟨q41, hq41, hf⟩ := zw_bdE hf
    rcases zw_ifE hf with ⟨c42, hf⟩ | ⟨c42, hf⟩
    ·
      cases hf
      exact hF
    ·
      obtain ⟨q43, hq43, hf⟩ := zw_bdE hf
      have hF := (fr_X11_tell U hU v0 s.1 s.2 hv0 _ hq43).tr hF
      cases hf
      exact hF
theorem fr_s_X11_read_159_lp (U : Nat → Prop) {R : zR} (hU : ∀ o j, U o → U (R o j)) (v0 : Nat)  (hv0 : U v0) (n : Nat) (s : zI × zJ) (r : zI × zJ) (h : zw_it (s_X11_read_159 v0 R) n s = some r) : zw_FR U (zp_X11_read_159 (s.1) (s.2) (.inr r)).1 (s.1) (zp_X11_read_159 (s.1) (s.2) (.inr r)).2 (s.2) :=
  zw_itF (A := fun t t0 : zI × zJ => zw_FR U (t.1) (t0.1) (t.2) (t0.2)) (Q := fun (r : zI × zJ) (t : zI × zJ) => zw_FR U (zp_X11_read_159 (t.1) (t.2) (.inr r)).1 (t.1) (zp_X11_read_159 (t.1) (t.2) (.inr r)).2 (t.2)) (fun s o h1 => by
    have h2 := fr_s_X11_read_159 U hU v0 hv0 s o h1
    cases o with
    | inl t => exact h2
    | inr r => exact h2) (fun h1 h2 => zw_FR.tr h2 h1) n s r h
theorem fr_j_X11_read_211 (U : Nat → Prop) {R : zR} (hU : ∀ o j, U o → U (R o j)) (v0 : Nat) (s0 : Nat) (s1 : Int32) (I : zI) (J : zJ) (hv0 : U v0) (hs0 : U s0) (o : Int32 × zI × zJ) (hf : j_X11_read_211 v0 s0 s1 I R J = some o) : zw_FR U (o.2.1) (I) (o.2.2) (J) := by
  have hF : zw_FR U I I J J := zw_FR.rf
  unfold j_X11_read_211 at hf
  obtain ⟨g48, hf⟩ := zw_gcE hf (by decide)
  obtain ⟨I49, eI49, hf⟩ := zw_letE hf
  have hF := hF.wI eI49 hs0
  obtain ⟨g50, hf⟩ := zw_gcE hf (by decide)
  rcases zw_ifE hf with ⟨c51, hf⟩ | ⟨c51, hf⟩
  ·
    rcases zw_ifE hf with ⟨c52, hf⟩ | ⟨c52, hf⟩
    ·
      obtain ⟨I53, eI53, hf⟩ := zw_letE hf
      have hF := hF.wI eI53 hv0
      obtain ⟨I54, eI54, hf⟩ := zw_letE hf
      have hF := hF.wI eI54 hv0
      obtain ⟨I55, eI55, hf⟩ := zw_letE hf
      have hF := hF.wI eI55 hv0
      obtain ⟨I56, eI56, hf⟩ := zw_letE hf
      have hF := hF.wI eI56 hv0
      obtain ⟨I57, eI57, hf⟩ := zw_letE hf
      have hF := hF.wI eI57 hv0
      cases hf
      exact hF
    ·
      cases hf
      exact hF
  ·
    cases hf
    exact hF
theorem fr_j_X11_read_181 (U : Nat → Prop) {R : zR} (hU : ∀ o j, U o → U (R o j)) (v0 : Nat) (I : zI) (J : zJ) (hv0 : U v0) (o : Int32 × zI × zJ) (hf : j_X11_read_181 v0 I R J = some o) : zw_FR U (o.2.1) (I) (o.2.2) (J) := by
  have hF : zw_FR U I I J J := zw_FR.rf
  unfold j_X11_read_181 at hf
  obtain ⟨g45, hf⟩ := zw_gcE hf (by decide)
  rcases zw_ifE hf with ⟨c46, hf⟩ | ⟨c46, hf⟩
  ·
    rcases zw_ifE hf with ⟨c47, hf⟩ | ⟨c47, hf⟩
    ·
      exact (fr_j_X11_read_211 U hU v0 v0 (-1) I J hv0 hv0 _ hf).tr hF
    ·
      exact (fr_j_X11_read_211 U hU v0 v0 (I v0 16) I J hv0 hv0 _ hf).tr hF
  ·
    exact (fr_j_X11_read_211 U hU v0 v0 (I v0 14) I J hv0 hv0 _ hf).tr hF
theorem fr_X11_read (U : Nat → Prop) {R : zR} (hU : ∀ o j, U o → U (R o j)) (v0 : Nat) (I : zI) (J : zJ) (hv0 : U v0) (o : Int32 × zI × zJ) (hf : f_X11_read v0 I R J = some o) : zw_FR U (o.2.1) (I) (o.2.2) (J) := by
  have hF : zw_FR U I I J J := zw_FR.rf
  unfold f_X11_read at hf
  obtain ⟨g1, hf⟩ := zw_gcE hf (by decide)
  obtain ⟨I2, eI2, hf⟩ := zw_letE hf
  have hF := hF.wI eI2 hv0
  obtain ⟨q11, hq11, hf⟩ := zw_bdE hf
  have hF := (fr_s_X11_read_10_lp U hU v0 J hv0 _ _ _ hq11).tr hF
  obtain ⟨I12, eI12, hf⟩ := zw_letE hf
  have hF := hF.wI eI12 hv0
  obtain ⟨q13, hq13, hf⟩ := zw_bdE hf
  have hF := (fr_X11_cut U hU v0 I12 J hv0 _ hq13).tr hF
  obtain ⟨I14, eI14, hf⟩ := zw_letE hf
  have hF := hF.wI eI14 hv0
  obtain ⟨I15, eI15, hf⟩ := zw_letE hf
  have hF := hF.wI eI15 hv0
  obtain ⟨I16, eI16, hf⟩ := zw_letE hf
  have hF := hF.wI eI16 hv0
  obtain ⟨I17, eI17, hf⟩ := zw_letE hf
  have hF := hF.wI eI17 hv0
  obtain ⟨I18, eI18, hf⟩ := zw_letE hf
  have hF := hF.wI eI18 hv0
  obtain ⟨g19, hf⟩ := zw_gcE hf (by decide)
  obtain ⟨i20, hf⟩ := zw_inE hf
  obtain ⟨I21, eI21, hf⟩ := zw_letE hf
  have hF := hF.wI eI21 (hU _ _ hv0)
  obtain ⟨g22, hf⟩ := zw_gcE hf (by decide)
  obtain ⟨i23, hf⟩ := zw_inE hf
  obtain ⟨I24, eI24, hf⟩ := zw_letE hf
  have hF := hF.wI eI24 (hU _ _ hv0)
  obtain ⟨g25, hf⟩ := zw_gcE hf (by decide)
  obtain ⟨i26, hf⟩ := zw_inE hf
  obtain ⟨I27, eI27, hf⟩ := zw_letE hf
  have hF := hF.wI eI27 (hU _ _ hv0)
  obtain ⟨g28, hf⟩ := zw_gcE hf (by decide)
  obtain ⟨i29, hf⟩ := zw_inE hf
  obtain ⟨I30, eI30, hf⟩ := zw_letE hf
  have hF := hF.wI eI30 (hU _ _ hv0)
  obtain ⟨g31, hf⟩ := zw_gcE hf (by decide)
  obtain ⟨i32, hf⟩ := zw_inE hf
  obtain ⟨I33, eI33, hf⟩ := zw_letE hf
  have hF := hF.wI eI33 (hU _ _ hv0)
  obtain ⟨g34, hf⟩ := zw_gcE hf (by decide)
  obtain ⟨i35, hf⟩ := zw_inE hf
  obtain ⟨I36, eI36, hf⟩ := zw_letE hf
  have hF := hF.wI eI36 (hU _ _ hv0)
  obtain ⟨I37, eI37, hf⟩ := zw_letE hf
  have hF := hF.wI eI37 hv0
  obtain ⟨I38, eI38, hf⟩ := zw_letE hf
  have hF := hF.wI eI38 hv0
  obtain ⟨q44, hq44, hf⟩ := zw_bdE hf
  have hF := (fr_s_X11_read_159_lp U hU v0 hv0 _ _ _ hq44).tr hF
  exact (fr_j_X11_read_181 U hU v0 q44.1 q44.2 hv0 _ hf).tr hF
