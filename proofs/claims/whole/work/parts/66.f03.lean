theorem fr_X10_shine (U : Nat → Prop) {R : zR} (hU : ∀ o j, U o → U (R o j)) (v0 : Nat) (v1 : Int32) (v2 : Int32) (v3 : Int32) (v4 : Int32) (v5 : Int32) (v6 : Int32) (v7 : Int32) (v8 : Int32) (I : zI) (J : zJ) (hv0 : U v0) (o : Int32 × zI) (hf : f_X10_shine v0 v1 v2 v3 v4 v5 v6 v7 v8 I R = some o) : zw_FR U (o.2) (I) (J) (J) := by
  have hF : zw_FR U I I J J := zw_FR.rf
  unfold f_X10_shine at hf
  obtain ⟨g1, hf⟩ := zw_gcE hf (by decide)
  obtain ⟨q2, hq2, hf⟩ := zw_bdE hf
  rcases zw_ifE hf with ⟨c3, hf⟩ | ⟨c3, hf⟩
  ·
    cases hf
    exact hF
  ·
    obtain ⟨q4, hq4, hf⟩ := zw_bdE hf
    rcases zw_ifE hf with ⟨c5, hf⟩ | ⟨c5, hf⟩
    ·
      cases hf
      exact hF
    ·
      obtain ⟨q6, hq6, hf⟩ := zw_bdE hf
      rcases zw_ifE hf with ⟨c7, hf⟩ | ⟨c7, hf⟩
      ·
        obtain ⟨q8, hq8, hf⟩ := zw_bdE hf
        rcases zw_ifE hf with ⟨c9, hf⟩ | ⟨c9, hf⟩
        ·
          cases hf
          exact hF
        ·
          obtain ⟨q10, hq10, hf⟩ := zw_bdE hf
          rcases zw_ifE hf with ⟨c11, hf⟩ | ⟨c11, hf⟩
          ·
            cases hf
            exact hF
          ·
            obtain ⟨q12, hq12, hf⟩ := zw_bdE hf
            rcases zw_ifE hf with ⟨c13, hf⟩ | ⟨c13, hf⟩
            ·
              obtain ⟨g14, hf⟩ := zw_gcE hf (by decide)
              obtain ⟨q15, hq15, hf⟩ := zw_bdE hf
              have hF := (fr_X6_setLamps U hU (R v0 5) v4 v5 v6 I J (hU _ _ hv0) _ hq15).tr hF
              obtain ⟨q16, hq16, hf⟩ := zw_bdE hf
              have hF := (fr_X6_setHead U hU (R v0 5) v7 v8 q15 J (hU _ _ hv0) _ hq16).tr hF
              obtain ⟨g17, hf⟩ := zw_gcE hf (by decide)
              obtain ⟨g18, hf⟩ := zw_gcE hf (by decide)
              obtain ⟨i19, hf⟩ := zw_inE hf
              obtain ⟨g20, hf⟩ := zw_gcE hf (by decide)
              obtain ⟨g21, hf⟩ := zw_gcE hf (by decide)
              obtain ⟨i22, hf⟩ := zw_inE hf
              obtain ⟨g23, hf⟩ := zw_gcE hf (by decide)
              obtain ⟨q24, hq24, hf⟩ := zw_bdE hf
              have hF := (fr_X6_lightUp U hU (R v0 5) (R (R (R v0 2) 2) (Int32.toNatClampNeg v1)) (R (R (R v0 2) 0) (Int32.toNatClampNeg v2)) v3 q16 J (hU _ _ hv0) _ hq24).tr hF
              obtain ⟨I25, eI25, hf⟩ := zw_letE hf
              have hF := hF.wI eI25 hv0
              obtain ⟨g26, hf⟩ := zw_gcE hf (by decide)
              obtain ⟨i27, hf⟩ := zw_inE hf
              cases hf
              exact hF
            ·
              cases hf
              exact hF
      ·
        cases hf
        exact hF
def zp_X11_literal_2 (I : zI) (J : zJ) (o : (Int32 × zI) ⊕ (Int32 × zI)) : zI × zJ := match o with | .inl t => (t.2, J) | .inr r => (r.2, J)
theorem fr_j_X11_literal_20_2 (U : Nat → Prop) {R : zR} (hU : ∀ o j, U o → U (R o j)) (v0 : Nat) (v1 : Int32) (s0 : Int32) (I : zI) (J : zJ) (hv0 : U v0) (o : (Int32 × zI) ⊕ (Int32 × zI)) (hf : j_X11_literal_20_2 v0 v1 s0 I R = some o) : zw_FR U (zp_X11_literal_2 I J o).1 (I) (zp_X11_literal_2 I J o).2 (J) := by
  have hF : zw_FR U I I J J := zw_FR.rf
  unfold j_X11_literal_20_2 at hf
  obtain ⟨g5, hf⟩ := zw_gcE hf (by decide)
  obtain ⟨q6, hq6, hf⟩ := zw_bdE hf
  have hF := (fr_X11_goesOn U hU v0 I J hv0 _ hq6).tr hF
  cases hf
  exact hF
theorem fr_s_X11_literal_2 (U : Nat → Prop) {R : zR} (hU : ∀ o j, U o → U (R o j)) (v0 : Nat) (v1 : Int32) (J : zJ) (hv0 : U v0) (s : Int32 × zI) (o : (Int32 × zI) ⊕ (Int32 × zI)) (hf : s_X11_literal_2 v0 v1 R s = some o) : zw_FR U (zp_X11_literal_2 s.2 J o).1 (s.2) (zp_X11_literal_2 s.2 J o).2 (J) := by
  have hF : zw_FR U (s.2) (s.2) (J) (J) := zw_FR.rf
  unfold s_X11_literal_2 at hf
  obtain ⟨g1, hf⟩ := zw_gcE hf (by decide)
  obtain ⟨q2, hq2, hf⟩ := zw_bdE hf
  rcases zw_ifE hf with ⟨c3, hf⟩ | ⟨c3, hf⟩
  ·
    cases hf
    exact hF
  ·
    rcases zw_ifE hf with ⟨c4, hf⟩ | ⟨c4, hf⟩
    ·
      exact (fr_j_X11_literal_20_2 U hU v0 v1 0 s.2 J hv0 _ hf).tr hF
    ·
      exact (fr_j_X11_literal_20_2 U hU v0 v1 1 s.2 J hv0 _ hf).tr hF
theorem fr_s_X11_literal_2_lp (U : Nat → Prop) {R : zR} (hU : ∀ o j, U o → U (R o j)) (v0 : Nat) (v1 : Int32) (J : zJ) (hv0 : U v0) (n : Nat) (s : Int32 × zI) (r : Int32 × zI) (h : zw_it (s_X11_literal_2 v0 v1 R) n s = some r) : zw_FR U (zp_X11_literal_2 (s.2) (J) (.inr r)).1 (s.2) (zp_X11_literal_2 (s.2) (J) (.inr r)).2 (J) :=
  zw_itF (A := fun t t0 : Int32 × zI => zw_FR U (t.2) (t0.2) (J) (J)) (Q := fun (r : Int32 × zI) (t : Int32 × zI) => zw_FR U (zp_X11_literal_2 (t.2) (J) (.inr r)).1 (t.2) (zp_X11_literal_2 (t.2) (J) (.inr r)).2 (J)) (fun s o h1 => by
    have h2 := fr_s_X11_literal_2 U hU v0 v1 J hv0 s o h1
    cases o with
    | inl t => exact h2
    | inr r => exact h2) (fun h1 h2 => zw_FR.tr h2 h1) n s r h
theorem fr_j_X11_literal_85 (U : Nat → Prop) {R : zR} (hU : ∀ o j, U o → U (R o j)) (v0 : Nat) (v1 : Int32) (v2 : Int32) (v3 : Int32) (v4 : Int32) (I : zI) (J : zJ) (hv0 : U v0) (o : zI) (hf : j_X11_literal_85 v0 v1 v2 v3 v4 I R = some o) : zw_FR U (o) (I) (J) (J) := by
  have hF : zw_FR U I I J J := zw_FR.rf
  unfold j_X11_literal_85 at hf
  obtain ⟨g16, hf⟩ := zw_gcE hf (by decide)
  obtain ⟨q17, hq17, hf⟩ := zw_bdE hf
  have hF := (fr_X11_goesOn U hU v0 I J hv0 _ hq17).tr hF
  obtain ⟨x18, ex18, hf⟩ := zw_letE hf
  obtain ⟨q19, hq19, hf⟩ := zw_bdE hf
  have hF := (fr_X11_expression U hU v0 q17 J hv0 _ hq19).tr hF
  rcases zw_ifE hf with ⟨c20, hf⟩ | ⟨c20, hf⟩
  ·
    obtain ⟨g21, hf⟩ := zw_gcE hf (by decide)
    obtain ⟨i22, hf⟩ := zw_inE hf
    obtain ⟨I23, eI23, hf⟩ := zw_letE hf
    have hF := hF.wI eI23 (hU _ _ hv0)
    obtain ⟨g24, hf⟩ := zw_gcE hf (by decide)
    obtain ⟨i25, hf⟩ := zw_inE hf
    obtain ⟨b26, hf⟩ := zw_bE hf
    obtain ⟨I27, eI27, hf⟩ := zw_letE hf
    have hF := hF.wI eI27 (hU _ _ hv0)
    obtain ⟨g28, hf⟩ := zw_gcE hf (by decide)
    obtain ⟨i29, hf⟩ := zw_inE hf
    obtain ⟨b30, hf⟩ := zw_bE hf
    obtain ⟨I31, eI31, hf⟩ := zw_letE hf
    have hF := hF.wI eI31 (hU _ _ hv0)
    obtain ⟨g32, hf⟩ := zw_gcE hf (by decide)
    obtain ⟨i33, hf⟩ := zw_inE hf
    obtain ⟨I34, eI34, hf⟩ := zw_letE hf
    have hF := hF.wI eI34 (hU _ _ hv0)
    obtain ⟨g35, hf⟩ := zw_gcE hf (by decide)
    obtain ⟨i36, hf⟩ := zw_inE hf
    obtain ⟨I37, eI37, hf⟩ := zw_letE hf
    have hF := hF.wI eI37 (hU _ _ hv0)
    obtain ⟨g38, hf⟩ := zw_gcE hf (by decide)
    obtain ⟨i39, hf⟩ := zw_inE hf
    obtain ⟨I40, eI40, hf⟩ := zw_letE hf
    have hF := hF.wI eI40 (hU _ _ hv0)
    obtain ⟨I41, eI41, hf⟩ := zw_letE hf
    have hF := hF.wI eI41 hv0
    cases hf
    exact hF
  ·
    cases hf
    exact hF
theorem fr_j_X11_literal_80 (U : Nat → Prop) {R : zR} (hU : ∀ o j, U o → U (R o j)) (v0 : Nat) (v1 : Int32) (v2 : Int32) (v3 : Int32) (v4 : Int32) (I : zI) (J : zJ) (hv0 : U v0) (o : zI) (hf : j_X11_literal_80 v0 v1 v2 v3 v4 I R = some o) : zw_FR U (o) (I) (J) (J) := by
  have hF : zw_FR U I I J J := zw_FR.rf
  unfold j_X11_literal_80 at hf
  obtain ⟨g43, hf⟩ := zw_gcE hf (by decide)
  obtain ⟨q44, hq44, hf⟩ := zw_bdE hf
  have hF := (fr_X11_fail U hU v0 1 I J hv0 _ hq44).tr hF
  exact (fr_j_X11_literal_85 U hU v0 v1 v2 v3 v4 q44 J hv0 _ hf).tr hF
theorem fr_j_X11_literal_60 (U : Nat → Prop) {R : zR} (hU : ∀ o j, U o → U (R o j)) (v0 : Nat) (v1 : Int32) (v2 : Int32) (v3 : Int32) (s0 : Int32) (I : zI) (J : zJ) (hv0 : U v0) (o : zI) (hf : j_X11_literal_60 v0 v1 v2 v3 s0 I R = some o) : zw_FR U (o) (I) (J) (J) := by
  have hF : zw_FR U I I J J := zw_FR.rf
  unfold j_X11_literal_60 at hf
  obtain ⟨g14, hf⟩ := zw_gcE hf (by decide)
  rcases zw_ifE hf with ⟨c15, hf⟩ | ⟨c15, hf⟩
  ·
    exact (fr_j_X11_literal_85 U hU v0 v1 v2 v3 s0 I J hv0 _ hf).tr hF
  ·
    rcases zw_ifE hf with ⟨c42, hf⟩ | ⟨c42, hf⟩
    ·
      exact (fr_j_X11_literal_80 U hU v0 v1 v2 v3 s0 I J hv0 _ hf).tr hF
    ·
      rcases zw_ifE hf with ⟨c45, hf⟩ | ⟨c45, hf⟩
      ·
        exact (fr_j_X11_literal_85 U hU v0 v1 v2 v3 s0 I J hv0 _ hf).tr hF
      ·
        exact (fr_j_X11_literal_80 U hU v0 v1 v2 v3 s0 I J hv0 _ hf).tr hF
theorem fr_X11_literal (U : Nat → Prop) {R : zR} (hU : ∀ o j, U o → U (R o j)) (v0 : Nat) (v1 : Int32) (I : zI) (J : zJ) (hv0 : U v0) (o : zI) (hf : f_X11_literal v0 v1 I R = some o) : zw_FR U (o) (I) (J) (J) := by
  have hF : zw_FR U I I J J := zw_FR.rf
  unfold f_X11_literal at hf
  obtain ⟨q7, hq7, hf⟩ := zw_bdE hf
  have hF := (fr_s_X11_literal_2_lp U hU v0 v1 J hv0 _ _ _ hq7).tr hF
  obtain ⟨g8, hf⟩ := zw_gcE hf (by decide)
  obtain ⟨x9, ex9, hf⟩ := zw_letE hf
  obtain ⟨q10, hq10, hf⟩ := zw_bdE hf
  have hF := (fr_X11_expression U hU v0 q7.2 J hv0 _ hq10).tr hF
  rcases zw_ifE hf with ⟨c11, hf⟩ | ⟨c11, hf⟩
  ·
    obtain ⟨g12, hf⟩ := zw_gcE hf (by decide)
    obtain ⟨i13, hf⟩ := zw_inE hf
    exact (fr_j_X11_literal_60 U hU v0 v1 q7.1 x9 ((q10 (R v0 5) (Int32.toNatClampNeg (q10 v0 11))) - 11) q10 J hv0 _ hf).tr hF
  ·
    exact (fr_j_X11_literal_60 U hU v0 v1 q7.1 x9 0 q10 J hv0 _ hf).tr hF
theorem fr_X11_price (U : Nat → Prop) {R : zR} (hU : ∀ o j, U o → U (R o j)) (v0 : Nat) (I : zI) (J : zJ) (hv0 : U v0) (o : Int32 × zI) (hf : f_X11_price v0 I R = some o) : zw_FR U (o.2) (I) (J) (J) := by
  have hF : zw_FR U I I J J := zw_FR.rf
  unfold f_X11_price at hf
  obtain ⟨g1, hf⟩ := zw_gcE hf (by decide)
  rcases zw_ifE hf with ⟨c2, hf⟩ | ⟨c2, hf⟩
  ·
    obtain ⟨q3, hq3, hf⟩ := zw_bdE hf
    have hF := (fr_X11_again U hU v0 I J hv0 _ hq3).tr hF
    obtain ⟨q4, hq4, hf⟩ := zw_bdE hf
    have hF := (fr_X11_priceNow U hU v0 q3 J hv0 _ hq4).tr hF
    cases hf
    exact hF
  ·
    cases hf
    exact hF
def zp_X11_ray_132 (I : zI) (J : zJ) (o : (Int32 × zI) ⊕ (zI)) : zI × zJ := match o with | .inl t => (t.2, J) | .inr r => (r, J)
theorem fr_s_X11_ray_132 (U : Nat → Prop) {R : zR} (hU : ∀ o j, U o → U (R o j)) (v0 : Nat) (J : zJ) (hv0 : U v0) (s : Int32 × zI) (o : (Int32 × zI) ⊕ (zI)) (hf : s_X11_ray_132 v0 R s = some o) : zw_FR U (zp_X11_ray_132 s.2 J o).1 (s.2) (zp_X11_ray_132 s.2 J o).2 (J) := by
  have hF : zw_FR U (s.2) (s.2) (J) (J) := zw_FR.rf
  unfold s_X11_ray_132 at hf
  obtain ⟨g22, hf⟩ := zw_gcE hf (by decide)
  rcases zw_ifE hf with ⟨c23, hf⟩ | ⟨c23, hf⟩
  ·
    cases hf
    exact hF
  ·
    obtain ⟨g24, hf⟩ := zw_gcE hf (by decide)
    obtain ⟨g25, hf⟩ := zw_gcE hf (by decide)
    obtain ⟨i26, hf⟩ := zw_inE hf
    obtain ⟨i27, hf⟩ := zw_inE hf
    obtain ⟨I28, eI28, hf⟩ := zw_letE hf
    have hF := hF.wI eI28 (hU _ _ hv0)
    obtain ⟨x29, ex29, hf⟩ := zw_letE hf
    cases hf
    exact hF
theorem fr_s_X11_ray_132_lp (U : Nat → Prop) {R : zR} (hU : ∀ o j, U o → U (R o j)) (v0 : Nat) (J : zJ) (hv0 : U v0) (n : Nat) (s : Int32 × zI) (r : zI) (h : zw_it (s_X11_ray_132 v0 R) n s = some r) : zw_FR U (zp_X11_ray_132 (s.2) (J) (.inr r)).1 (s.2) (zp_X11_ray_132 (s.2) (J) (.inr r)).2 (J) :=
  zw_itF (A := fun t t0 : Int32 × zI => zw_FR U (t.2) (t0.2) (J) (J)) (Q := fun (r : zI) (t : Int32 × zI) => zw_FR U (zp_X11_ray_132 (t.2) (J) (.inr r)).1 (t.2) (zp_X11_ray_132 (t.2) (J) (.inr r)).2 (J)) (fun s o h1 => by
    have h2 := fr_s_X11_ray_132 U hU v0 J hv0 s o h1
    cases o with
    | inl t => exact h2
    | inr r => exact h2) (fun h1 h2 => zw_FR.tr h2 h1) n s r h
def zp_X11_ray_164 (I : zI) (J : zJ) (o : (Int32 × zI) ⊕ (zI)) : zI × zJ := match o with | .inl t => (t.2, J) | .inr r => (r, J)
theorem fr_s_X11_ray_164 (U : Nat → Prop) {R : zR} (hU : ∀ o j, U o → U (R o j)) (v0 : Nat) (J : zJ) (hv0 : U v0) (s : Int32 × zI) (o : (Int32 × zI) ⊕ (zI)) (hf : s_X11_ray_164 v0 R s = some o) : zw_FR U (zp_X11_ray_164 s.2 J o).1 (s.2) (zp_X11_ray_164 s.2 J o).2 (J) := by
  have hF : zw_FR U (s.2) (s.2) (J) (J) := zw_FR.rf
  unfold s_X11_ray_164 at hf
  rcases zw_ifE hf with ⟨c31, hf⟩ | ⟨c31, hf⟩
  ·
    cases hf
    exact hF
  ·
    obtain ⟨g32, hf⟩ := zw_gcE hf (by decide)
    obtain ⟨g33, hf⟩ := zw_gcE hf (by decide)
    obtain ⟨g34, hf⟩ := zw_gcE hf (by decide)
    obtain ⟨i35, hf⟩ := zw_inE hf
    obtain ⟨i36, hf⟩ := zw_inE hf
    obtain ⟨I37, eI37, hf⟩ := zw_letE hf
    have hF := hF.wI eI37 (hU _ _ hv0)
    obtain ⟨x38, ex38, hf⟩ := zw_letE hf
    cases hf
    exact hF
theorem fr_s_X11_ray_164_lp (U : Nat → Prop) {R : zR} (hU : ∀ o j, U o → U (R o j)) (v0 : Nat) (J : zJ) (hv0 : U v0) (n : Nat) (s : Int32 × zI) (r : zI) (h : zw_it (s_X11_ray_164 v0 R) n s = some r) : zw_FR U (zp_X11_ray_164 (s.2) (J) (.inr r)).1 (s.2) (zp_X11_ray_164 (s.2) (J) (.inr r)).2 (J) :=
  zw_itF (A := fun t t0 : Int32 × zI => zw_FR U (t.2) (t0.2) (J) (J)) (Q := fun (r : zI) (t : Int32 × zI) => zw_FR U (zp_X11_ray_164 (t.2) (J) (.inr r)).1 (t.2) (zp_X11_ray_164 (t.2) (J) (.inr r)).2 (J)) (fun s o h1 => by
    have h2 := fr_s_X11_ray_164 U hU v0 J hv0 s o h1
    cases o with
    | inl t => exact h2
    | inr r => exact h2) (fun h1 h2 => zw_FR.tr h2 h1) n s r h
theorem fr_j_X11_ray_75 (U : Nat → Prop) {R : zR} (hU : ∀ o j, U o → U (R o j)) (v0 : Nat) (v3 : Int32) (v4 : Int32) (v5 : Int32) (v6 : Int32) (v7 : Int32) (v8 : Int32) (s0 : Int32) (s1 : Int32) (s2 : Int32) (I : zI) (J : zJ) (hv0 : U v0) (o : Int32 × zI) (hf : j_X11_ray_75 v0 v3 v4 v5 v6 v7 v8 s0 s1 s2 I R = some o) : zw_FR U (o.2) (I) (J) (J) := by
  have hF : zw_FR U I I J J := zw_FR.rf
  unfold j_X11_ray_75 at hf
  obtain ⟨q13, hq13, hf⟩ := zw_bdE hf
  rcases zw_ifE hf with ⟨c14, hf⟩ | ⟨c14, hf⟩
  ·
    cases hf
    exact hF
  ·
    obtain ⟨q15, hq15, hf⟩ := zw_bdE hf
    rcases zw_ifE hf with ⟨c16, hf⟩ | ⟨c16, hf⟩
    ·
      obtain ⟨g17, hf⟩ := zw_gcE hf (by decide)
      obtain ⟨q18, hq18, hf⟩ := zw_bdE hf
      have hF := (fr_X11_darkens U hU v0 I J hv0 _ hq18).tr hF
      obtain ⟨q19, hq19, hf⟩ := zw_bdE hf
      have hF := (fr_X11_lamp U hU v0 v7 v8 v3 v4 v5 v6 q18 J hv0 _ hq19).tr hF
      obtain ⟨I20, eI20, hf⟩ := zw_letE hf
      have hF := hF.wI eI20 hv0
      obtain ⟨I21, eI21, hf⟩ := zw_letE hf
      have hF := hF.wI eI21 hv0
      obtain ⟨q30, hq30, hf⟩ := zw_bdE hf
      have hF := (fr_s_X11_ray_132_lp U hU v0 J hv0 _ _ _ hq30).tr hF
      obtain ⟨q39, hq39, hf⟩ := zw_bdE hf
      have hF := (fr_s_X11_ray_164_lp U hU v0 J hv0 _ _ _ hq39).tr hF
      obtain ⟨g40, hf⟩ := zw_gcE hf (by decide)
      obtain ⟨i41, hf⟩ := zw_inE hf
      obtain ⟨I42, eI42, hf⟩ := zw_letE hf
      have hF := hF.wI eI42 (hU _ _ hv0)
      obtain ⟨i43, hf⟩ := zw_inE hf
      obtain ⟨I44, eI44, hf⟩ := zw_letE hf
      have hF := hF.wI eI44 (hU _ _ hv0)
      obtain ⟨i45, hf⟩ := zw_inE hf
      obtain ⟨I46, eI46, hf⟩ := zw_letE hf
      have hF := hF.wI eI46 (hU _ _ hv0)
      cases hf
      exact hF
    ·
      cases hf
      exact hF
theorem fr_j_X11_ray_50 (U : Nat → Prop) {R : zR} (hU : ∀ o j, U o → U (R o j)) (v0 : Nat) (v3 : Int32) (v4 : Int32) (v5 : Int32) (v6 : Int32) (v7 : Int32) (v8 : Int32) (I : zI) (J : zJ) (hv0 : U v0) (o : Int32 × zI) (hf : j_X11_ray_50 v0 v3 v4 v5 v6 v7 v8 I R = some o) : zw_FR U (o.2) (I) (J) (J) := by
  have hF : zw_FR U I I J J := zw_FR.rf
  unfold j_X11_ray_50 at hf
  rcases zw_ifE hf with ⟨c9, hf⟩ | ⟨c9, hf⟩
  ·
    obtain ⟨g10, hf⟩ := zw_gcE hf (by decide)
    obtain ⟨g11, hf⟩ := zw_gcE hf (by decide)
    obtain ⟨i12, hf⟩ := zw_inE hf
    exact (fr_j_X11_ray_75 U hU v0 v3 v4 v5 v6 v7 v8 v5 0 (I (R v0 29) (Int32.toNatClampNeg v7)) I J hv0 _ hf).tr hF
  ·
    obtain ⟨g47, hf⟩ := zw_gcE hf (by decide)
    obtain ⟨g48, hf⟩ := zw_gcE hf (by decide)
    obtain ⟨i49, hf⟩ := zw_inE hf
    exact (fr_j_X11_ray_75 U hU v0 v3 v4 v5 v6 v7 v8 v5 0 (I (R v0 28) (Int32.toNatClampNeg v7)) I J hv0 _ hf).tr hF
theorem fr_X11_ray (U : Nat → Prop) {R : zR} (hU : ∀ o j, U o → U (R o j)) (v0 : Nat) (v1 : Int32) (v2 : Int32) (v3 : Int32) (v4 : Int32) (v5 : Int32) (v6 : Int32) (I : zI) (J : zJ) (hv0 : U v0) (o : Int32 × zI) (hf : f_X11_ray v0 v1 v2 v3 v4 v5 v6 I R = some o) : zw_FR U (o.2) (I) (J) (J) := by
  have hF : zw_FR U I I J J := zw_FR.rf
  unfold f_X11_ray at hf
  obtain ⟨g1, hf⟩ := zw_gcE hf (by decide)
  obtain ⟨q2, hq2, hf⟩ := zw_bdE hf
  obtain ⟨q3, hq3, hf⟩ := zw_bdE hf
  rcases zw_ifE hf with ⟨c4, hf⟩ | ⟨c4, hf⟩
  ·
    cases hf
    exact hF
  ·
    rcases zw_ifE hf with ⟨c5, hf⟩ | ⟨c5, hf⟩
    ·
      cases hf
      exact hF
    ·
      obtain ⟨q6, hq6, hf⟩ := zw_bdE hf
      rcases zw_ifE hf with ⟨c7, hf⟩ | ⟨c7, hf⟩
      ·
        cases hf
        exact hF
      ·
        rcases zw_ifE hf with ⟨c8, hf⟩ | ⟨c8, hf⟩
        ·
          exact (fr_j_X11_ray_50 U hU v0 v3 v4 v5 v6 q2 q3 I J hv0 _ hf).tr hF
        ·
          rcases zw_ifE hf with ⟨c50, hf⟩ | ⟨c50, hf⟩
          ·
            exact (fr_j_X11_ray_50 U hU v0 v3 v4 v5 v6 q2 q3 I J hv0 _ hf).tr hF
          ·
            rcases zw_ifE hf with ⟨c51, hf⟩ | ⟨c51, hf⟩
            ·
              cases hf
              exact hF
            ·
              exact (fr_j_X11_ray_50 U hU v0 v3 v4 v5 v6 q2 q3 I J hv0 _ hf).tr hF
def zp_X11_shines_7 (I : zI) (J : zJ) (o : (Int32 × zI) ⊕ (zI)) : zI × zJ := match o with | .inl t => (t.2, J) | .inr r => (r, J)
theorem fr_j_X11_shines_44_7 (U : Nat → Prop) {R : zR} (hU : ∀ o j, U o → U (R o j)) (v0 : Nat) (v1 : Int32) (v2 : Int32) (v3 : Int32) (v4 : Int32) (v5 : Int32) (v6 : Int32) (v7 : Int32) (v8 : Int32) (v9 : Int32) (I : zI) (J : zJ)  (o : (Int32 × zI) ⊕ (zI)) (hf : j_X11_shines_44_7 v0 v1 v2 v3 v4 v5 v6 v7 v8 v9 I R = some o) : zw_FR U (zp_X11_shines_7 I J o).1 (I) (zp_X11_shines_7 I J o).2 (J) := by
  have hF : zw_FR U I I J J := zw_FR.rf
  unfold j_X11_shines_44_7 at hf
  obtain ⟨x10, ex10, hf⟩ := zw_letE hf
  cases hf
  exact hF
theorem fr_j_X11_shines_32_7 (U : Nat → Prop) {R : zR} (hU : ∀ o j, U o → U (R o j)) (v0 : Nat) (v1 : Int32) (v2 : Int32) (v3 : Int32) (v4 : Int32) (v5 : Int32) (v6 : Int32) (v7 : Int32) (v8 : Int32) (v9 : Int32) (I : zI) (J : zJ) (hv0 : U v0) (o : (Int32 × zI) ⊕ (zI)) (hf : j_X11_shines_32_7 v0 v1 v2 v3 v4 v5 v6 v7 v8 v9 I R = some o) : zw_FR U (zp_X11_shines_7 I J o).1 (I) (zp_X11_shines_7 I J o).2 (J) := by
  have hF : zw_FR U I I J J := zw_FR.rf
  unfold j_X11_shines_32_7 at hf
  obtain ⟨g8, hf⟩ := zw_gcE hf (by decide)
  obtain ⟨q9, hq9, hf⟩ := zw_bdE hf
  have hF := (fr_X11_lamp U hU v0 v1 v2 v3 0 v9 v4 I J hv0 _ hq9).tr hF
  exact (fr_j_X11_shines_44_7 U hU v0 v1 v2 v3 v4 v5 v6 v7 v8 v9 q9 J  _ hf).tr hF
theorem fr_s_X11_shines_7 (U : Nat → Prop) {R : zR} (hU : ∀ o j, U o → U (R o j)) (v0 : Nat) (v1 : Int32) (v2 : Int32) (v3 : Int32) (v4 : Int32) (v5 : Int32) (v6 : Int32) (v7 : Int32) (v8 : Int32) (J : zJ) (hv0 : U v0) (s : Int32 × zI) (o : (Int32 × zI) ⊕ (zI)) (hf : s_X11_shines_7 v0 v1 v2 v3 v4 v5 v6 v7 v8 R s = some o) : zw_FR U (zp_X11_shines_7 s.2 J o).1 (s.2) (zp_X11_shines_7 s.2 J o).2 (J) := by
  have hF : zw_FR U (s.2) (s.2) (J) (J) := zw_FR.rf
  unfold s_X11_shines_7 at hf
  obtain ⟨g3, hf⟩ := zw_gcE hf (by decide)
  obtain ⟨g4, hf⟩ := zw_gcE hf (by decide)
  obtain ⟨i5, hf⟩ := zw_inE hf
  rcases zw_ifE hf with ⟨c6, hf⟩ | ⟨c6, hf⟩
  ·
    cases hf
    exact hF
  ·
    rcases zw_ifE hf with ⟨c7, hf⟩ | ⟨c7, hf⟩
    ·
      exact (fr_j_X11_shines_32_7 U hU v0 v1 v2 v3 v4 v5 v6 v7 v8 s.1 s.2 J hv0 _ hf).tr hF
    ·
      rcases zw_ifE hf with ⟨c11, hf⟩ | ⟨c11, hf⟩
      ·
        exact (fr_j_X11_shines_44_7 U hU v0 v1 v2 v3 v4 v5 v6 v7 v8 s.1 s.2 J  _ hf).tr hF
      ·
        exact (fr_j_X11_shines_32_7 U hU v0 v1 v2 v3 v4 v5 v6 v7 v8 s.1 s.2 J hv0 _ hf).tr hF
theorem fr_s_X11_shines_7_lp (U : Nat → Prop) {R : zR} (hU : ∀ o j, U o → U (R o j)) (v0 : Nat) (v1 : Int32) (v2 : Int32) (v3 : Int32) (v4 : Int32) (v5 : Int32) (v6 : Int32) (v7 : Int32) (v8 : Int32) (J : zJ) (hv0 : U v0) (n : Nat) (s : Int32 × zI) (r : zI) (h : zw_it (s_X11_shines_7 v0 v1 v2 v3 v4 v5 v6 v7 v8 R) n s = some r) : zw_FR U (zp_X11_shines_7 (s.2) (J) (.inr r)).1 (s.2) (zp_X11_shines_7 (s.2) (J) (.inr r)).2 (J) :=
  zw_itF (A := fun t t0 : Int32 × zI => zw_FR U (t.2) (t0.2) (J) (J)) (Q := fun (r : zI) (t : Int32 × zI) => zw_FR U (zp_X11_shines_7 (t.2) (J) (.inr r)).1 (t.2) (zp_X11_shines_7 (t.2) (J) (.inr r)).2 (J)) (fun s o h1 => by
    have h2 := fr_s_X11_shines_7 U hU v0 v1 v2 v3 v4 v5 v6 v7 v8 J hv0 s o h1
    cases o with
    | inl t => exact h2
    | inr r => exact h2) (fun h1 h2 => zw_FR.tr h2 h1) n s r h
def zp_X11_shines_53 (I : zI) (J : zJ) (o : (Int32 × zI) ⊕ (zI)) : zI × zJ := match o with | .inl t => (t.2, J) | .inr r => (r, J)
theorem fr_s_X11_shines_53 (U : Nat → Prop) {R : zR} (hU : ∀ o j, U o → U (R o j)) (v0 : Nat) (v1 : Int32) (v2 : Int32) (v3 : Int32) (v5 : Int32) (v6 : Int32) (J : zJ) (hv0 : U v0) (s : Int32 × zI) (o : (Int32 × zI) ⊕ (zI)) (hf : s_X11_shines_53 v0 v1 v2 v3 v5 v6 R s = some o) : zw_FR U (zp_X11_shines_53 s.2 J o).1 (s.2) (zp_X11_shines_53 s.2 J o).2 (J) := by
  have hF : zw_FR U (s.2) (s.2) (J) (J) := zw_FR.rf
  unfold s_X11_shines_53 at hf
  obtain ⟨g13, hf⟩ := zw_gcE hf (by decide)
  obtain ⟨g14, hf⟩ := zw_gcE hf (by decide)
  obtain ⟨i15, hf⟩ := zw_inE hf
  rcases zw_ifE hf with ⟨c16, hf⟩ | ⟨c16, hf⟩
  ·
    cases hf
    exact hF
  ·
    obtain ⟨q17, hq17, hf⟩ := zw_bdE hf
    have hF := (fr_X11_lamp U hU v0 v1 v2 v3 3 s.1 v5 s.2 J hv0 _ hq17).tr hF
    obtain ⟨q18, hq18, hf⟩ := zw_bdE hf
    have hF := (fr_X11_lamp U hU v0 v1 v2 v3 1 s.1 v6 q17 J hv0 _ hq18).tr hF
    obtain ⟨x19, ex19, hf⟩ := zw_letE hf
    cases hf
    exact hF
theorem fr_s_X11_shines_53_lp (U : Nat → Prop) {R : zR} (hU : ∀ o j, U o → U (R o j)) (v0 : Nat) (v1 : Int32) (v2 : Int32) (v3 : Int32) (v5 : Int32) (v6 : Int32) (J : zJ) (hv0 : U v0) (n : Nat) (s : Int32 × zI) (r : zI) (h : zw_it (s_X11_shines_53 v0 v1 v2 v3 v5 v6 R) n s = some r) : zw_FR U (zp_X11_shines_53 (s.2) (J) (.inr r)).1 (s.2) (zp_X11_shines_53 (s.2) (J) (.inr r)).2 (J) :=
  zw_itF (A := fun t t0 : Int32 × zI => zw_FR U (t.2) (t0.2) (J) (J)) (Q := fun (r : zI) (t : Int32 × zI) => zw_FR U (zp_X11_shines_53 (t.2) (J) (.inr r)).1 (t.2) (zp_X11_shines_53 (t.2) (J) (.inr r)).2 (J)) (fun s o h1 => by
    have h2 := fr_s_X11_shines_53 U hU v0 v1 v2 v3 v5 v6 J hv0 s o h1
    cases o with
    | inl t => exact h2
    | inr r => exact h2) (fun h1 h2 => zw_FR.tr h2 h1) n s r h
def zp_X11_shines_100 (I : zI) (J : zJ) (o : (Int32 × Int32) ⊕ (Int32)) : zI × zJ := match o with | .inl t => (I, J) | .inr r => (I, J)
theorem fr_j_X11_shines_132_100 (U : Nat → Prop) {R : zR} (hU : ∀ o j, U o → U (R o j)) (v0 : Nat) (v1 : Int32) (v3 : Int32) (v9 : Int32) (v10 : Int32) (I : zI) (J : zJ)  (o : (Int32 × Int32) ⊕ (Int32)) (hf : j_X11_shines_132_100 v0 v1 v3 v9 v10 I R = some o) : zw_FR U (zp_X11_shines_100 I J o).1 (I) (zp_X11_shines_100 I J o).2 (J) := by
  have hF : zw_FR U I I J J := zw_FR.rf
  unfold j_X11_shines_132_100 at hf
  obtain ⟨x28, ex28, hf⟩ := zw_letE hf
  cases hf
  exact hF
def zp_X11_shines_144 (I : zI) (J : zJ) (o : (Int32 × Int32) ⊕ (Int32)) : zI × zJ := match o with | .inl t => (I, J) | .inr r => (I, J)
def zp_X11_shines_161 (I : zI) (J : zJ) (o : (Int32 × Int32) ⊕ (Int32)) : zI × zJ := match o with | .inl t => (I, J) | .inr r => (I, J)
theorem fr_j_X11_shines_194_161 (U : Nat → Prop) {R : zR} (hU : ∀ o j, U o → U (R o j)) (v0 : Nat) (v1 : Int32) (v3 : Int32) (v9 : Int32) (v10 : Int32) (v11 : Int32) (v13 : Int32) (s0 : Int32) (I : zI) (J : zJ)  (o : (Int32 × Int32) ⊕ (Int32)) (hf : j_X11_shines_194_161 v0 v1 v3 v9 v10 v11 v13 s0 I R = some o) : zw_FR U (zp_X11_shines_161 I J o).1 (I) (zp_X11_shines_161 I J o).2 (J) := by
  have hF : zw_FR U I I J J := zw_FR.rf
  unfold j_X11_shines_194_161 at hf
  obtain ⟨x41, ex41, hf⟩ := zw_letE hf
  cases hf
  exact hF
theorem fr_j_X11_shines_189_161 (U : Nat → Prop) {R : zR} (hU : ∀ o j, U o → U (R o j)) (v0 : Nat) (v1 : Int32) (v3 : Int32) (v9 : Int32) (v10 : Int32) (v11 : Int32) (v13 : Int32) (I : zI) (J : zJ)  (o : (Int32 × Int32) ⊕ (Int32)) (hf : j_X11_shines_189_161 v0 v1 v3 v9 v10 v11 v13 I R = some o) : zw_FR U (zp_X11_shines_161 I J o).1 (I) (zp_X11_shines_161 I J o).2 (J) := by
  have hF : zw_FR U I I J J := zw_FR.rf
  unfold j_X11_shines_189_161 at hf
  exact (fr_j_X11_shines_194_161 U hU v0 v1 v3 v9 v10 v11 v13 1 I J  _ hf).tr hF
theorem fr_j_X11_shines_229_144 (U : Nat → Prop) {R : zR} (hU : ∀ o j, U o → U (R o j)) (v0 : Nat) (v1 : Int32) (v3 : Int32) (v9 : Int32) (v10 : Int32) (v11 : Int32) (I : zI) (J : zJ)  (o : (Int32 × Int32) ⊕ (Int32)) (hf : j_X11_shines_229_144 v0 v1 v3 v9 v10 v11 I R = some o) : zw_FR U (zp_X11_shines_144 I J o).1 (I) (zp_X11_shines_144 I J o).2 (J) := by
  have hF : zw_FR U I I J J := zw_FR.rf
  unfold j_X11_shines_229_144 at hf
  obtain ⟨x46, ex46, hf⟩ := zw_letE hf
  cases hf
  exact hF
def zp_X11_shines_241 (I : zI) (J : zJ) (o : (Int32 × Int32) ⊕ (Int32)) : zI × zJ := match o with | .inl t => (I, J) | .inr r => (I, J)
theorem fr_j_X11_shines_295_241 (U : Nat → Prop) {R : zR} (hU : ∀ o j, U o → U (R o j)) (v0 : Nat) (v1 : Int32) (v3 : Int32) (v10 : Int32) (v12 : Int32) (s0 : Int32) (s1 : Int32) (I : zI) (J : zJ)  (o : (Int32 × Int32) ⊕ (Int32)) (hf : j_X11_shines_295_241 v0 v1 v3 v10 v12 s0 s1 I R = some o) : zw_FR U (zp_X11_shines_241 I J o).1 (I) (zp_X11_shines_241 I J o).2 (J) := by
  have hF : zw_FR U I I J J := zw_FR.rf
  unfold j_X11_shines_295_241 at hf
  obtain ⟨x62, ex62, hf⟩ := zw_letE hf
  obtain ⟨x63, ex63, hf⟩ := zw_letE hf
  cases hf
  exact hF
theorem fr_X11_shines (U : Nat → Prop) {R : zR} (hU : ∀ o j, U o → U (R o j)) (v0 : Nat) (v1 : Int32) (v2 : Int32) (v3 : Int32) (v4 : Int32) (v5 : Int32) (v6 : Int32) (v7 : Int32) (v8 : Int32) (I : zI) (J : zJ) (hv0 : U v0) (o : zI) (hf : f_X11_shines v0 v1 v2 v3 v4 v5 v6 v7 v8 I R = some o) : zw_FR U (o) (I) (J) (J) := by
  have hF : zw_FR U I I J J := zw_FR.rf
  unfold f_X11_shines at hf
  obtain ⟨g1, hf⟩ := zw_gcE hf (by decide)
  obtain ⟨q2, hq2, hf⟩ := zw_bdE hf
  have hF := (fr_X11_darkens U hU v0 I J hv0 _ hq2).tr hF
  obtain ⟨q12, hq12, hf⟩ := zw_bdE hf
  have hF := (fr_s_X11_shines_7_lp U hU v0 v1 v2 v3 v4 v5 v6 v7 v8 J hv0 _ _ _ hq12).tr hF
  obtain ⟨q20, hq20, hf⟩ := zw_bdE hf
  have hF := (fr_s_X11_shines_53_lp U hU v0 v1 v2 v3 v5 v6 J hv0 _ _ _ hq20).tr hF
  obtain ⟨q31, hq31, hf⟩ := zw_bdE hf
  obtain ⟨q51, hq51, hf⟩ := zw_bdE hf
  obtain ⟨q64, hq64, hf⟩ := zw_bdE hf
  obtain ⟨g65, hf⟩ := zw_gcE hf (by decide)
  obtain ⟨g66, hf⟩ := zw_gcE hf (by decide)
  obtain ⟨i67, hf⟩ := zw_inE hf
  obtain ⟨i68, hf⟩ := zw_inE hf
  obtain ⟨I69, eI69, hf⟩ := zw_letE hf
  have hF := hF.wI eI69 (hU _ _ hv0)
  obtain ⟨i70, hf⟩ := zw_inE hf
  obtain ⟨i71, hf⟩ := zw_inE hf
  obtain ⟨i72, hf⟩ := zw_inE hf
  obtain ⟨i73, hf⟩ := zw_inE hf
  obtain ⟨I74, eI74, hf⟩ := zw_letE hf
  have hF := hF.wI eI74 (hU _ _ hv0)
  obtain ⟨i75, hf⟩ := zw_inE hf
  obtain ⟨I76, eI76, hf⟩ := zw_letE hf
  have hF := hF.wI eI76 (hU _ _ hv0)
  obtain ⟨q77, hq77, hf⟩ := zw_bdE hf
  obtain ⟨i78, hf⟩ := zw_inE hf
  obtain ⟨I79, eI79, hf⟩ := zw_letE hf
  have hF := hF.wI eI79 (hU _ _ hv0)
  obtain ⟨i80, hf⟩ := zw_inE hf
  obtain ⟨I81, eI81, hf⟩ := zw_letE hf
  have hF := hF.wI eI81 (hU _ _ hv0)
  obtain ⟨i82, hf⟩ := zw_inE hf
  obtain ⟨I83, eI83, hf⟩ := zw_letE hf
  have hF := hF.wI eI83 (hU _ _ hv0)
  obtain ⟨g84, hf⟩ := zw_gcE hf (by decide)
  obtain ⟨i85, hf⟩ := zw_inE hf
  obtain ⟨i86, hf⟩ := zw_inE hf
  obtain ⟨I87, eI87, hf⟩ := zw_letE hf
  have hF := hF.wI eI87 (hU _ _ hv0)
  obtain ⟨i88, hf⟩ := zw_inE hf
  obtain ⟨I89, eI89, hf⟩ := zw_letE hf
  have hF := hF.wI eI89 (hU _ _ hv0)
  cases hf
  exact hF
def zp_X11_tellRows_37 (I : zI) (J : zJ) (o : (Int32 × Int32 × zI) ⊕ ((Int32 × Int32 × zI) ⊕ (zI))) : zI × zJ := match o with | .inl t => (t.2.2, J) | .inr r => (match r with | .inl r0 => (r0.2.2, J) | .inr t0 => (t0, J))
def zp_X11_tellRows_121 (I : zI) (J : zJ) (o : (Int32 × Int32 × zI) ⊕ (Int32 × zI)) : zI × zJ := match o with | .inl t => (t.2.2, J) | .inr r => (r.2, J)
theorem fr_j_X11_tellRows_202_121 (U : Nat → Prop) {R : zR} (hU : ∀ o j, U o → U (R o j)) (v0 : Nat) (v1 : Int32) (v2 : Int32) (v5 : Int32) (v6 : Int32) (s0 : Int32) (I : zI) (J : zJ)  (o : (Int32 × Int32 × zI) ⊕ (Int32 × zI)) (hf : j_X11_tellRows_202_121 v0 v1 v2 v5 v6 s0 I R J = some o) : zw_FR U (zp_X11_tellRows_121 I J o).1 (I) (zp_X11_tellRows_121 I J o).2 (J) := by
  have hF : zw_FR U I I J J := zw_FR.rf
  unfold j_X11_tellRows_202_121 at hf
  obtain ⟨x40, ex40, hf⟩ := zw_letE hf
  cases hf
  exact hF
theorem fr_j_X11_tellRows_197_121 (U : Nat → Prop) {R : zR} (hU : ∀ o j, U o → U (R o j)) (v0 : Nat) (v1 : Int32) (v2 : Int32) (v5 : Int32) (v6 : Int32) (I : zI) (J : zJ)  (o : (Int32 × Int32 × zI) ⊕ (Int32 × zI)) (hf : j_X11_tellRows_197_121 v0 v1 v2 v5 v6 I R J = some o) : zw_FR U (zp_X11_tellRows_121 I J o).1 (I) (zp_X11_tellRows_121 I J o).2 (J) := by
  have hF : zw_FR U I I J J := zw_FR.rf
  unfold j_X11_tellRows_197_121 at hf
  exact (fr_j_X11_tellRows_202_121 U hU v0 v1 v2 v5 v6 1 I J  _ hf).tr hF
theorem fr_j_X11_tellRows_188_121 (U : Nat → Prop) {R : zR} (hU : ∀ o j, U o → U (R o j)) (v0 : Nat) (v1 : Int32) (v2 : Int32) (v3 : Int32) (v5 : Int32) (v6 : Int32) (v7 : Int32) (I : zI) (J : zJ)  (o : (Int32 × Int32 × zI) ⊕ (Int32 × zI)) (hf : j_X11_tellRows_188_121 v0 v1 v2 v3 v5 v6 v7 I R J = some o) : zw_FR U (zp_X11_tellRows_121 I J o).1 (I) (zp_X11_tellRows_121 I J o).2 (J) := by
  have hF : zw_FR U I I J J := zw_FR.rf
  unfold j_X11_tellRows_188_121 at hf
  rcases zw_ifE hf with ⟨c39, hf⟩ | ⟨c39, hf⟩
  ·
    exact (fr_j_X11_tellRows_197_121 U hU v0 v1 v2 v5 v6 I J  _ hf).tr hF
  ·
    rcases zw_ifE hf with ⟨c41, hf⟩ | ⟨c41, hf⟩
    ·
      exact (fr_j_X11_tellRows_202_121 U hU v0 v1 v2 v5 v6 0 I J  _ hf).tr hF
    ·
      exact (fr_j_X11_tellRows_197_121 U hU v0 v1 v2 v5 v6 I J  _ hf).tr hF
theorem fr_s_X11_tellRows_121 (U : Nat → Prop) {R : zR} (hU : ∀ o j, U o → U (R o j)) (v0 : Nat) (v1 : Int32) (v2 : Int32) (v5 : Int32) (J : zJ) (hv0 : U v0) (s : Int32 × Int32 × zI) (o : (Int32 × Int32 × zI) ⊕ (Int32 × zI)) (hf : s_X11_tellRows_121 v0 v1 v2 v5 R J s = some o) : zw_FR U (zp_X11_tellRows_121 s.2.2 J o).1 (s.2.2) (zp_X11_tellRows_121 s.2.2 J o).2 (J) := by
  have hF : zw_FR U (s.2.2) (s.2.2) (J) (J) := zw_FR.rf
  unfold s_X11_tellRows_121 at hf
  rcases zw_ifE hf with ⟨c29, hf⟩ | ⟨c29, hf⟩
  ·
    cases hf
    exact hF
  ·
    obtain ⟨g30, hf⟩ := zw_gcE hf (by decide)
    obtain ⟨g31, hf⟩ := zw_gcE hf (by decide)
    obtain ⟨g32, hf⟩ := zw_gcE hf (by decide)
    obtain ⟨i33, hf⟩ := zw_inE hf
    obtain ⟨i34, hf⟩ := zw_inE hf
    obtain ⟨q35, hq35, hf⟩ := zw_bdE hf
    obtain ⟨g36, hf⟩ := zw_gcE hf (by decide)
    obtain ⟨i37, hf⟩ := zw_inE hf
    rcases zw_ifE hf with ⟨c38, hf⟩ | ⟨c38, hf⟩
    ·
      exact (fr_j_X11_tellRows_188_121 U hU v0 v1 v2 s.1 v5 s.2.1 q35 s.2.2 J  _ hf).tr hF
    ·
      obtain ⟨g42, hf⟩ := zw_gcE hf (by decide)
      obtain ⟨g43, hf⟩ := zw_gcE hf (by decide)
      obtain ⟨i44, hf⟩ := zw_inE hf
      obtain ⟨i45, hf⟩ := zw_inE hf
      obtain ⟨I46, eI46, hf⟩ := zw_letE hf
      have hF := hF.wI eI46 (hU _ _ hv0)
      exact (fr_j_X11_tellRows_188_121 U hU v0 v1 v2 s.1 v5 s.2.1 q35 I46 J  _ hf).tr hF
theorem fr_s_X11_tellRows_121_lp (U : Nat → Prop) {R : zR} (hU : ∀ o j, U o → U (R o j)) (v0 : Nat) (v1 : Int32) (v2 : Int32) (v5 : Int32) (J : zJ) (hv0 : U v0) (n : Nat) (s : Int32 × Int32 × zI) (r : Int32 × zI) (h : zw_it (s_X11_tellRows_121 v0 v1 v2 v5 R J) n s = some r) : zw_FR U (zp_X11_tellRows_121 (s.2.2) (J) (.inr r)).1 (s.2.2) (zp_X11_tellRows_121 (s.2.2) (J) (.inr r)).2 (J) :=
  zw_itF (A := fun t t0 : Int32 × Int32 × zI => zw_FR U (t.2.2) (t0.2.2) (J) (J)) (Q := fun (r : Int32 × zI) (t : Int32 × Int32 × zI) => zw_FR U (zp_X11_tellRows_121 (t.2.2) (J) (.inr r)).1 (t.2.2) (zp_X11_tellRows_121 (t.2.2) (J) (.inr r)).2 (J)) (fun s o h1 => by
    have h2 := fr_s_X11_tellRows_121 U hU v0 v1 v2 v5 J hv0 s o h1
    cases o with
    | inl t => exact h2
    | inr r => exact h2) (fun h1 h2 => zw_FR.tr h2 h1) n s r h
theorem fr_j_X11_tellRows_118_37 (U : Nat → Prop) {R : zR} (hU : ∀ o j, U o → U (R o j)) (v0 : Nat) (v1 : Int32) (v2 : Int32) (v3 : Int32) (v5 : Int32) (I : zI) (J : zJ) (hv0 : U v0) (o : (Int32 × Int32 × zI) ⊕ ((Int32 × Int32 × zI) ⊕ (zI))) (hf : j_X11_tellRows_118_37 v0 v1 v2 v3 v5 I R J = some o) : zw_FR U (zp_X11_tellRows_37 I J o).1 (I) (zp_X11_tellRows_37 I J o).2 (J) := by
  have hF : zw_FR U I I J J := zw_FR.rf
  unfold j_X11_tellRows_118_37 at hf
  obtain ⟨q47, hq47, hf⟩ := zw_bdE hf
  have hF := (fr_s_X11_tellRows_121_lp U hU v0 v1 v2 v5 J hv0 _ _ _ hq47).tr hF
  obtain ⟨g48, hf⟩ := zw_gcE hf (by decide)
  obtain ⟨x49, ex49, hf⟩ := zw_letE hf
  obtain ⟨g50, hf⟩ := zw_gcE hf (by decide)
  obtain ⟨i51, hf⟩ := zw_inE hf
  obtain ⟨i52, hf⟩ := zw_inE hf
  obtain ⟨I53, eI53, hf⟩ := zw_letE hf
  have hF := hF.wI eI53 (hU _ _ hv0)
  obtain ⟨q54, hq54, hf⟩ := zw_bdE hf
  have hF := (fr_X11_goesOn U hU v0 I53 J hv0 _ hq54).tr hF
  cases hf
  exact hF
theorem fr_j_X11_tellRows_98_37 (U : Nat → Prop) {R : zR} (hU : ∀ o j, U o → U (R o j)) (v0 : Nat) (v1 : Int32) (v2 : Int32) (v3 : Int32) (v5 : Int32) (I : zI) (J : zJ) (hv0 : U v0) (o : (Int32 × Int32 × zI) ⊕ ((Int32 × Int32 × zI) ⊕ (zI))) (hf : j_X11_tellRows_98_37 v0 v1 v2 v3 v5 I R J = some o) : zw_FR U (zp_X11_tellRows_37 I J o).1 (I) (zp_X11_tellRows_37 I J o).2 (J) := by
  have hF : zw_FR U I I J J := zw_FR.rf
  unfold j_X11_tellRows_98_37 at hf
  obtain ⟨g25, hf⟩ := zw_gcE hf (by decide)
  obtain ⟨g26, hf⟩ := zw_gcE hf (by decide)
  obtain ⟨i27, hf⟩ := zw_inE hf
  rcases zw_ifE hf with ⟨c28, hf⟩ | ⟨c28, hf⟩
  ·
    exact (fr_j_X11_tellRows_118_37 U hU v0 v1 v2 v3 v5 I J hv0 _ hf).tr hF
  ·
    obtain ⟨q55, hq55, hf⟩ := zw_bdE hf
    have hF := (fr_X11_wrong U hU v0 5 (I v0 11) I J hv0 _ hq55).tr hF
    exact (fr_j_X11_tellRows_118_37 U hU v0 v1 v2 v3 v5 q55 J hv0 _ hf).tr hF
theorem fr_j_X11_tellRows_62_37 (U : Nat → Prop) {R : zR} (hU : ∀ o j, U o → U (R o j)) (v0 : Nat) (v1 : Int32) (v2 : Int32) (v3 : Int32) (I : zI) (J : zJ) (hv0 : U v0) (o : (Int32 × Int32 × zI) ⊕ ((Int32 × Int32 × zI) ⊕ (zI))) (hf : j_X11_tellRows_62_37 v0 v1 v2 v3 I R J = some o) : zw_FR U (zp_X11_tellRows_37 I J o).1 (I) (zp_X11_tellRows_37 I J o).2 (J) := by
  have hF : zw_FR U I I J J := zw_FR.rf
  unfold j_X11_tellRows_62_37 at hf
  obtain ⟨g17, hf⟩ := zw_gcE hf (by decide)
  rcases zw_ifE hf with ⟨c18, hf⟩ | ⟨c18, hf⟩
  ·
    obtain ⟨g19, hf⟩ := zw_gcE hf (by decide)
    obtain ⟨i20, hf⟩ := zw_inE hf
    obtain ⟨x21, ex21, hf⟩ := zw_letE hf
    obtain ⟨g22, hf⟩ := zw_gcE hf (by decide)
    obtain ⟨i23, hf⟩ := zw_inE hf
    rcases zw_ifE hf with ⟨c24, hf⟩ | ⟨c24, hf⟩
    ·
      exact (fr_j_X11_tellRows_98_37 U hU v0 v1 v2 v3 x21 I J hv0 _ hf).tr hF
    ·
      obtain ⟨g56, hf⟩ := zw_gcE hf (by decide)
      obtain ⟨i57, hf⟩ := zw_inE hf
      obtain ⟨I58, eI58, hf⟩ := zw_letE hf
      have hF := hF.wI eI58 (hU _ _ hv0)
      exact (fr_j_X11_tellRows_98_37 U hU v0 v1 v2 v3 x21 I58 J hv0 _ hf).tr hF
  ·
    cases hf
    exact hF
theorem fr_s_X11_tellRows_37 (U : Nat → Prop) {R : zR} (hU : ∀ o j, U o → U (R o j)) (v0 : Nat) (v1 : Int32) (v2 : Int32) (J : zJ) (hv0 : U v0) (s : Int32 × Int32 × zI) (o : (Int32 × Int32 × zI) ⊕ ((Int32 × Int32 × zI) ⊕ (zI))) (hf : s_X11_tellRows_37 v0 v1 v2 R J s = some o) : zw_FR U (zp_X11_tellRows_37 s.2.2 J o).1 (s.2.2) (zp_X11_tellRows_37 s.2.2 J o).2 (J) := by
  have hF : zw_FR U (s.2.2) (s.2.2) (J) (J) := zw_FR.rf
  unfold s_X11_tellRows_37 at hf
  obtain ⟨g11, hf⟩ := zw_gcE hf (by decide)
  obtain ⟨q12, hq12, hf⟩ := zw_bdE hf
  rcases zw_ifE hf with ⟨c13, hf⟩ | ⟨c13, hf⟩
  ·
    cases hf
    exact hF
  ·
    obtain ⟨g14, hf⟩ := zw_gcE hf (by decide)
    obtain ⟨i15, hf⟩ := zw_inE hf
    rcases zw_ifE hf with ⟨c16, hf⟩ | ⟨c16, hf⟩
    ·
      exact (fr_j_X11_tellRows_62_37 U hU v0 v1 v2 s.1 s.2.2 J hv0 _ hf).tr hF
    ·
      obtain ⟨q59, hq59, hf⟩ := zw_bdE hf
      have hF := (fr_X11_fail U hU v0 2 s.2.2 J hv0 _ hq59).tr hF
      exact (fr_j_X11_tellRows_62_37 U hU v0 v1 v2 s.1 q59 J hv0 _ hf).tr hF
theorem fr_s_X11_tellRows_37_lp (U : Nat → Prop) {R : zR} (hU : ∀ o j, U o → U (R o j)) (v0 : Nat) (v1 : Int32) (v2 : Int32) (J : zJ) (hv0 : U v0) (n : Nat) (s : Int32 × Int32 × zI) (r : (Int32 × Int32 × zI) ⊕ (zI)) (h : zw_it (s_X11_tellRows_37 v0 v1 v2 R J) n s = some r) : zw_FR U (zp_X11_tellRows_37 (s.2.2) (J) (.inr r)).1 (s.2.2) (zp_X11_tellRows_37 (s.2.2) (J) (.inr r)).2 (J) :=
  zw_itF (A := fun t t0 : Int32 × Int32 × zI => zw_FR U (t.2.2) (t0.2.2) (J) (J)) (Q := fun (r : (Int32 × Int32 × zI) ⊕ (zI)) (t : Int32 × Int32 × zI) => zw_FR U (zp_X11_tellRows_37 (t.2.2) (J) (.inr r)).1 (t.2.2) (zp_X11_tellRows_37 (t.2.2) (J) (.inr r)).2 (J)) (fun s o h1 => by
    have h2 := fr_s_X11_tellRows_37 U hU v0 v1 v2 J hv0 s o h1
    cases o with
    | inl t => exact h2
    | inr r => exact h2) (fun h1 h2 => zw_FR.tr h2 h1) n s r h
theorem fr_j_X11_tellRows_250 (U : Nat → Prop) {R : zR} (hU : ∀ o j, U o → U (R o j)) (v0 : Nat) (v2 : Int32) (I : zI) (J : zJ) (hv0 : U v0) (o : zI × zJ) (hf : j_X11_tellRows_250 v0 v2 I R J = some o) : zw_FR U (o.1) (I) (o.2) (J) := by
  have hF : zw_FR U I I J J := zw_FR.rf
  unfold j_X11_tellRows_250 at hf
  obtain ⟨g64, hf⟩ := zw_gcE hf (by decide)
  obtain ⟨q65, hq65, hf⟩ := zw_bdE hf
  have hF := (fr_X11_must U hU v0 4 I J hv0 _ hq65).tr hF
  rcases zw_ifE hf with ⟨c66, hf⟩ | ⟨c66, hf⟩
  ·
    rcases zw_ifE hf with ⟨c67, hf⟩ | ⟨c67, hf⟩
    ·
      obtain ⟨g68, hf⟩ := zw_gcE hf (by decide)
      obtain ⟨i69, hf⟩ := zw_inE hf
      obtain ⟨i70, hf⟩ := zw_inE hf
      obtain ⟨I71, eI71, hf⟩ := zw_letE hf
      have hF := hF.wI eI71 (hU _ _ hv0)
      cases hf
      exact hF
    ·
      obtain ⟨g72, hf⟩ := zw_gcE hf (by decide)
      obtain ⟨i73, hf⟩ := zw_inE hf
      obtain ⟨i74, hf⟩ := zw_inE hf
      obtain ⟨I75, eI75, hf⟩ := zw_letE hf
      have hF := hF.wI eI75 (hU _ _ hv0)
      cases hf
      exact hF
  ·
    cases hf
    exact hF
theorem fr_j_X11_tellRows_22 (U : Nat → Prop) {R : zR} (hU : ∀ o j, U o → U (R o j)) (v0 : Nat) (v1 : Int32) (v2 : Int32) (I : zI) (J : zJ) (hv0 : U v0) (o : zI × zJ) (hf : j_X11_tellRows_22 v0 v1 v2 I R J = some o) : zw_FR U (o.1) (I) (o.2) (J) := by
  have hF : zw_FR U I I J J := zw_FR.rf
  unfold j_X11_tellRows_22 at hf
  obtain ⟨g6, hf⟩ := zw_gcE hf (by decide)
  obtain ⟨g7, hf⟩ := zw_gcE hf (by decide)
  obtain ⟨i8, hf⟩ := zw_inE hf
  obtain ⟨I9, eI9, hf⟩ := zw_letE hf
  have hF := hF.wI eI9 (hU _ _ hv0)
  obtain ⟨x10, ex10, hf⟩ := zw_letE hf
  obtain ⟨q60, hq60, hf⟩ := zw_bdE hf
  have hF := (fr_s_X11_tellRows_37_lp U hU v0 v1 v2 J hv0 _ _ _ hq60).tr hF
  rcases q60 with a61 | a62
  ·
    rcases zw_ifE hf with ⟨c63, hf⟩ | ⟨c63, hf⟩
    ·
      exact (fr_j_X11_tellRows_250 U hU v0 v2 a61.2.2 J hv0 _ hf).tr hF
    ·
      rcases zw_ifE hf with ⟨c76, hf⟩ | ⟨c76, hf⟩
      ·
        exact (fr_j_X11_tellRows_250 U hU v0 v2 a61.2.2 J hv0 _ hf).tr hF
      ·
        obtain ⟨q77, hq77, hf⟩ := zw_bdE hf
        have hF := (fr_X11_wrong U hU v0 5 a61.2.1 a61.2.2 J hv0 _ hq77).tr hF
        exact (fr_j_X11_tellRows_250 U hU v0 v2 q77 J hv0 _ hf).tr hF
  ·
    cases hf
    exact hF
theorem fr_X11_tellRows (U : Nat → Prop) {R : zR} (hU : ∀ o j, U o → U (R o j)) (v0 : Nat) (v1 : Int32) (v2 : Int32) (I : zI) (J : zJ) (hv0 : U v0) (o : zI × zJ) (hf : f_X11_tellRows v0 v1 v2 I R J = some o) : zw_FR U (o.1) (I) (o.2) (J) := by
  have hF : zw_FR U I I J J := zw_FR.rf
  unfold f_X11_tellRows at hf
  obtain ⟨g1, hf⟩ := zw_gcE hf (by decide)
  obtain ⟨q2, hq2, hf⟩ := zw_bdE hf
  have hF := (fr_X11_goesOn U hU v0 I J hv0 _ hq2).tr hF
  obtain ⟨q3, hq3, hf⟩ := zw_bdE hf
  have hF := (fr_X11_named U hU v0 q2 J hv0 _ hq3).tr hF
  obtain ⟨q4, hq4, hf⟩ := zw_bdE hf
  rcases zw_ifE hf with ⟨c5, hf⟩ | ⟨c5, hf⟩
  ·
    exact (fr_j_X11_tellRows_22 U hU v0 v1 v2 q3.1 q3.2 hv0 _ hf).tr hF
  ·
    obtain ⟨q78, hq78, hf⟩ := zw_bdE hf
    have hF := (fr_X11_fail U hU v0 1 q3.1 q3.2 hv0 _ hq78).tr hF
    exact (fr_j_X11_tellRows_22 U hU v0 v1 v2 q78 q3.2 hv0 _ hf).tr hF
def zp_X11_tellStuff_34 (I : zI) (J : zJ) (o : (Int32 × Int32 × zI) ⊕ ((zI) ⊕ (zI))) : zI × zJ := match o with | .inl t => (t.2.2, J) | .inr r => (match r with | .inl r0 => (r0, J) | .inr t0 => (t0, J))
def zp_X11_tellStuff_92 (I : zI) (J : zJ) (o : (Int32 × zI) ⊕ (zI)) : zI × zJ := match o with | .inl t => (t.2, J) | .inr r => (r, J)
theorem fr_s_X11_tellStuff_92 (U : Nat → Prop) {R : zR} (hU : ∀ o j, U o → U (R o j)) (v0 : Nat) (v1 : Int32) (v2 : Int32) (v4 : Int32) (v5 : Int32) (J : zJ) (hv0 : U v0) (s : Int32 × zI) (o : (Int32 × zI) ⊕ (zI)) (hf : s_X11_tellStuff_92 v0 v1 v2 v4 v5 R J s = some o) : zw_FR U (zp_X11_tellStuff_92 s.2 J o).1 (s.2) (zp_X11_tellStuff_92 s.2 J o).2 (J) := by
  have hF : zw_FR U (s.2) (s.2) (J) (J) := zw_FR.rf
  unfold s_X11_tellStuff_92 at hf
  rcases zw_ifE hf with ⟨c16, hf⟩ | ⟨c16, hf⟩
  ·
    cases hf
    exact hF
  ·
    obtain ⟨g17, hf⟩ := zw_gcE hf (by decide)
    obtain ⟨g18, hf⟩ := zw_gcE hf (by decide)
    obtain ⟨i19, hf⟩ := zw_inE hf
    obtain ⟨I20, eI20, hf⟩ := zw_letE hf
    have hF := hF.wI eI20 (hU _ _ hv0)
    obtain ⟨g21, hf⟩ := zw_gcE hf (by decide)
    obtain ⟨i22, hf⟩ := zw_inE hf
    obtain ⟨I23, eI23, hf⟩ := zw_letE hf
    have hF := hF.wI eI23 (hU _ _ hv0)
    obtain ⟨x24, ex24, hf⟩ := zw_letE hf
    cases hf
    exact hF
theorem fr_s_X11_tellStuff_92_lp (U : Nat → Prop) {R : zR} (hU : ∀ o j, U o → U (R o j)) (v0 : Nat) (v1 : Int32) (v2 : Int32) (v4 : Int32) (v5 : Int32) (J : zJ) (hv0 : U v0) (n : Nat) (s : Int32 × zI) (r : zI) (h : zw_it (s_X11_tellStuff_92 v0 v1 v2 v4 v5 R J) n s = some r) : zw_FR U (zp_X11_tellStuff_92 (s.2) (J) (.inr r)).1 (s.2) (zp_X11_tellStuff_92 (s.2) (J) (.inr r)).2 (J) :=
  zw_itF (A := fun t t0 : Int32 × zI => zw_FR U (t.2) (t0.2) (J) (J)) (Q := fun (r : zI) (t : Int32 × zI) => zw_FR U (zp_X11_tellStuff_92 (t.2) (J) (.inr r)).1 (t.2) (zp_X11_tellStuff_92 (t.2) (J) (.inr r)).2 (J)) (fun s o h1 => by
    have h2 := fr_s_X11_tellStuff_92 U hU v0 v1 v2 v4 v5 J hv0 s o h1
    cases o with
    | inl t => exact h2
    | inr r => exact h2) (fun h1 h2 => zw_FR.tr h2 h1) n s r h
theorem fr_j_X11_tellStuff_148_34 (U : Nat → Prop) {R : zR} (hU : ∀ o j, U o → U (R o j)) (v0 : Nat) (v1 : Int32) (v2 : Int32) (v3 : Int32) (I : zI) (J : zJ)  (o : (Int32 × Int32 × zI) ⊕ ((zI) ⊕ (zI))) (hf : j_X11_tellStuff_148_34 v0 v1 v2 v3 I R J = some o) : zw_FR U (zp_X11_tellStuff_34 I J o).1 (I) (zp_X11_tellStuff_34 I J o).2 (J) := by
  have hF : zw_FR U I I J J := zw_FR.rf
  unfold j_X11_tellStuff_148_34 at hf
  cases hf
  exact hF
theorem fr_j_X11_tellStuff_63_34 (U : Nat → Prop) {R : zR} (hU : ∀ o j, U o → U (R o j)) (v0 : Nat) (v1 : Int32) (v2 : Int32) (I : zI) (J : zJ) (hv0 : U v0) (o : (Int32 × Int32 × zI) ⊕ ((zI) ⊕ (zI))) (hf : j_X11_tellStuff_63_34 v0 v1 v2 I R J = some o) : zw_FR U (zp_X11_tellStuff_34 I J o).1 (I) (zp_X11_tellStuff_34 I J o).2 (J) := by
  have hF : zw_FR U I I J J := zw_FR.rf
  unfold j_X11_tellStuff_63_34 at hf
  obtain ⟨g12, hf⟩ := zw_gcE hf (by decide)
  obtain ⟨q13, hq13, hf⟩ := zw_bdE hf
  have hF := (fr_X11_number U hU v0 1000 I J hv0 _ hq13).tr hF
  obtain ⟨q14, hq14, hf⟩ := zw_bdE hf
  have hF := (fr_X11_number U hU v0 1000 q13.2 J hv0 _ hq14).tr hF
  rcases zw_ifE hf with ⟨c15, hf⟩ | ⟨c15, hf⟩
  ·
    obtain ⟨q25, hq25, hf⟩ := zw_bdE hf
    have hF := (fr_s_X11_tellStuff_92_lp U hU v0 v1 v2 q13.1 q14.1 J hv0 _ _ _ hq25).tr hF
    obtain ⟨x26, ex26, hf⟩ := zw_letE hf
    obtain ⟨q27, hq27, hf⟩ := zw_bdE hf
    rcases zw_ifE hf with ⟨c28, hf⟩ | ⟨c28, hf⟩
    ·
      exact (fr_j_X11_tellStuff_148_34 U hU v0 v1 x26 q27 q25 J  _ hf).tr hF
    ·
      obtain ⟨q29, hq29, hf⟩ := zw_bdE hf
      have hF := (fr_X11_goesOn U hU v0 q25 J hv0 _ hq29).tr hF
      exact (fr_j_X11_tellStuff_148_34 U hU v0 v1 x26 q27 q29 J  _ hf).tr hF
  ·
    cases hf
    exact hF
theorem fr_s_X11_tellStuff_34 (U : Nat → Prop) {R : zR} (hU : ∀ o j, U o → U (R o j)) (v0 : Nat) (v1 : Int32) (J : zJ) (hv0 : U v0) (s : Int32 × Int32 × zI) (o : (Int32 × Int32 × zI) ⊕ ((zI) ⊕ (zI))) (hf : s_X11_tellStuff_34 v0 v1 R J s = some o) : zw_FR U (zp_X11_tellStuff_34 s.2.2 J o).1 (s.2.2) (zp_X11_tellStuff_34 s.2.2 J o).2 (J) := by
  have hF : zw_FR U (s.2.2) (s.2.2) (J) (J) := zw_FR.rf
  unfold s_X11_tellStuff_34 at hf
  rcases zw_ifE hf with ⟨c8, hf⟩ | ⟨c8, hf⟩
  ·
    cases hf
    exact hF
  ·
    obtain ⟨g9, hf⟩ := zw_gcE hf (by decide)
    rcases zw_ifE hf with ⟨c10, hf⟩ | ⟨c10, hf⟩
    ·
      cases hf
      exact hF
    ·
      rcases zw_ifE hf with ⟨c11, hf⟩ | ⟨c11, hf⟩
      ·
        exact (fr_j_X11_tellStuff_63_34 U hU v0 v1 s.1 s.2.2 J hv0 _ hf).tr hF
      ·
        obtain ⟨q30, hq30, hf⟩ := zw_bdE hf
        rcases zw_ifE hf with ⟨c31, hf⟩ | ⟨c31, hf⟩
        ·
          exact (fr_j_X11_tellStuff_63_34 U hU v0 v1 s.1 s.2.2 J hv0 _ hf).tr hF
        ·
          obtain ⟨q32, hq32, hf⟩ := zw_bdE hf
          have hF := (fr_X11_fail U hU v0 2 s.2.2 J hv0 _ hq32).tr hF
          exact (fr_j_X11_tellStuff_63_34 U hU v0 v1 s.1 q32 J hv0 _ hf).tr hF
theorem fr_s_X11_tellStuff_34_lp (U : Nat → Prop) {R : zR} (hU : ∀ o j, U o → U (R o j)) (v0 : Nat) (v1 : Int32) (J : zJ) (hv0 : U v0) (n : Nat) (s : Int32 × Int32 × zI) (r : (zI) ⊕ (zI)) (h : zw_it (s_X11_tellStuff_34 v0 v1 R J) n s = some r) : zw_FR U (zp_X11_tellStuff_34 (s.2.2) (J) (.inr r)).1 (s.2.2) (zp_X11_tellStuff_34 (s.2.2) (J) (.inr r)).2 (J) :=
  zw_itF (A := fun t t0 : Int32 × Int32 × zI => zw_FR U (t.2.2) (t0.2.2) (J) (J)) (Q := fun (r : (zI) ⊕ (zI)) (t : Int32 × Int32 × zI) => zw_FR U (zp_X11_tellStuff_34 (t.2.2) (J) (.inr r)).1 (t.2.2) (zp_X11_tellStuff_34 (t.2.2) (J) (.inr r)).2 (J)) (fun s o h1 => by
    have h2 := fr_s_X11_tellStuff_34 U hU v0 v1 J hv0 s o h1
    cases o with
    | inl t => exact h2
    | inr r => exact h2) (fun h1 h2 => zw_FR.tr h2 h1) n s r h
theorem fr_j_X11_tellStuff_186 (U : Nat → Prop) {R : zR} (hU : ∀ o j, U o → U (R o j)) (v0 : Nat) (I : zI) (J : zJ) (hv0 : U v0) (o : zI × zJ) (hf : j_X11_tellStuff_186 v0 I R J = some o) : zw_FR U (o.1) (I) (o.2) (J) := by
  have hF : zw_FR U I I J J := zw_FR.rf
  unfold j_X11_tellStuff_186 at hf
  obtain ⟨g42, hf⟩ := zw_gcE hf (by decide)
  obtain ⟨q43, hq43, hf⟩ := zw_bdE hf
  have hF := (fr_X11_must U hU v0 4 I J hv0 _ hq43).tr hF
  rcases zw_ifE hf with ⟨c44, hf⟩ | ⟨c44, hf⟩
  ·
    cases hf
    exact hF
  ·
    obtain ⟨g45, hf⟩ := zw_gcE hf (by decide)
    obtain ⟨i46, hf⟩ := zw_inE hf
    obtain ⟨i47, hf⟩ := zw_inE hf
    obtain ⟨I48, eI48, hf⟩ := zw_letE hf
    have hF := hF.wI eI48 (hU _ _ hv0)
    cases hf
    exact hF
theorem fr_j_X11_tellStuff_151 (U : Nat → Prop) {R : zR} (hU : ∀ o j, U o → U (R o j)) (v0 : Nat) (v1 : Int32) (I : zI) (J : zJ) (hv0 : U v0) (o : zI × zJ) (hf : j_X11_tellStuff_151 v0 v1 I R J = some o) : zw_FR U (o.1) (I) (o.2) (J) := by
  have hF : zw_FR U I I J J := zw_FR.rf
  unfold j_X11_tellStuff_151 at hf
  obtain ⟨g36, hf⟩ := zw_gcE hf (by decide)
  obtain ⟨g37, hf⟩ := zw_gcE hf (by decide)
  obtain ⟨i38, hf⟩ := zw_inE hf
  obtain ⟨I39, eI39, hf⟩ := zw_letE hf
  have hF := hF.wI eI39 (hU _ _ hv0)
  obtain ⟨q40, hq40, hf⟩ := zw_bdE hf
  rcases zw_ifE hf with ⟨c41, hf⟩ | ⟨c41, hf⟩
  ·
    exact (fr_j_X11_tellStuff_186 U hU v0 I39 J hv0 _ hf).tr hF
  ·
    obtain ⟨q49, hq49, hf⟩ := zw_bdE hf
    have hF := (fr_X11_goesOn U hU v0 I39 J hv0 _ hq49).tr hF
    obtain ⟨q50, hq50, hf⟩ := zw_bdE hf
    have hF := (fr_X11_number U hU v0 1000 q49 J hv0 _ hq50).tr hF
    obtain ⟨i51, hf⟩ := zw_inE hf
    obtain ⟨I52, eI52, hf⟩ := zw_letE hf
    have hF := hF.wI eI52 (hU _ _ hv0)
    exact (fr_j_X11_tellStuff_186 U hU v0 I52 J hv0 _ hf).tr hF
theorem fr_X11_tellStuff (U : Nat → Prop) {R : zR} (hU : ∀ o j, U o → U (R o j)) (v0 : Nat) (I : zI) (J : zJ) (hv0 : U v0) (o : zI × zJ) (hf : f_X11_tellStuff v0 I R J = some o) : zw_FR U (o.1) (I) (o.2) (J) := by
  have hF : zw_FR U I I J J := zw_FR.rf
  unfold f_X11_tellStuff at hf
  obtain ⟨g1, hf⟩ := zw_gcE hf (by decide)
  obtain ⟨g2, hf⟩ := zw_gcE hf (by decide)
  obtain ⟨i3, hf⟩ := zw_inE hf
  obtain ⟨x4, ex4, hf⟩ := zw_letE hf
  obtain ⟨q5, hq5, hf⟩ := zw_bdE hf
  have hF := (fr_X11_goesOn U hU v0 I J hv0 _ hq5).tr hF
  obtain ⟨q6, hq6, hf⟩ := zw_bdE hf
  have hF := (fr_X11_named U hU v0 q5 J hv0 _ hq6).tr hF
  obtain ⟨q7, hq7, hf⟩ := zw_bdE hf
  have hF := (fr_X11_must U hU v0 5 q6.1 q6.2 hv0 _ hq7).tr hF
  obtain ⟨q33, hq33, hf⟩ := zw_bdE hf
  have hF := (fr_s_X11_tellStuff_34_lp U hU v0 x4 q6.2 hv0 _ _ _ hq33).tr hF
  rcases q33 with a34 | a35
  ·
    exact (fr_j_X11_tellStuff_151 U hU v0 x4 a34 q6.2 hv0 _ hf).tr hF
  ·
    cases hf
    exact hF
def zp_X1_gradeBy_2 (I : zI) (J : zJ) (o : (Int32 × zI) ⊕ ((zI) ⊕ (Int32 × zI))) : zI × zJ := match o with | .inl t => (t.2, J) | .inr r => (match r with | .inl r0 => (r0, J) | .inr t0 => (t0.2, J))
theorem fr_s_X1_gradeBy_2 (U : Nat → Prop) {R : zR} (hU : ∀ o j, U o → U (R o j)) (v0 : Nat) (v1 : Nat) (v2 : Nat) (J : zJ) (hv2 : U v2) (s : Int32 × zI) (o : (Int32 × zI) ⊕ ((zI) ⊕ (Int32 × zI))) (hf : s_X1_gradeBy_2 v0 v1 v2 R s = some o) : zw_FR U (zp_X1_gradeBy_2 s.2 J o).1 (s.2) (zp_X1_gradeBy_2 s.2 J o).2 (J) := by
  have hF : zw_FR U (s.2) (s.2) (J) (J) := zw_FR.rf
  unfold s_X1_gradeBy_2 at hf
  obtain ⟨g1, hf⟩ := zw_gcE hf (by decide)
  rcases zw_ifE hf with ⟨c2, hf⟩ | ⟨c2, hf⟩
  ·
    cases hf
    exact hF
  ·
    obtain ⟨g3, hf⟩ := zw_gcE hf (by decide)
    obtain ⟨i4, hf⟩ := zw_inE hf
    obtain ⟨g5, hf⟩ := zw_gcE hf (by decide)
    obtain ⟨g6, hf⟩ := zw_gcE hf (by decide)
    obtain ⟨q7, hq7, hf⟩ := zw_bdE hf
    have hF := (fr_X4_holds U hU v2 v0 (R (R v0 6) (Int32.toNatClampNeg s.1)) v1 s.2 J hv2 _ hq7).tr hF
    rcases zw_ifE hf with ⟨c8, hf⟩ | ⟨c8, hf⟩
    ·
      obtain ⟨x9, ex9, hf⟩ := zw_letE hf
      cases hf
      exact hF
    ·
      cases hf
      exact hF
theorem fr_s_X1_gradeBy_2_lp (U : Nat → Prop) {R : zR} (hU : ∀ o j, U o → U (R o j)) (v0 : Nat) (v1 : Nat) (v2 : Nat) (J : zJ) (hv2 : U v2) (n : Nat) (s : Int32 × zI) (r : (zI) ⊕ (Int32 × zI)) (h : zw_it (s_X1_gradeBy_2 v0 v1 v2 R) n s = some r) : zw_FR U (zp_X1_gradeBy_2 (s.2) (J) (.inr r)).1 (s.2) (zp_X1_gradeBy_2 (s.2) (J) (.inr r)).2 (J) :=
  zw_itF (A := fun t t0 : Int32 × zI => zw_FR U (t.2) (t0.2) (J) (J)) (Q := fun (r : (zI) ⊕ (Int32 × zI)) (t : Int32 × zI) => zw_FR U (zp_X1_gradeBy_2 (t.2) (J) (.inr r)).1 (t.2) (zp_X1_gradeBy_2 (t.2) (J) (.inr r)).2 (J)) (fun s o h1 => by
    have h2 := fr_s_X1_gradeBy_2 U hU v0 v1 v2 J hv2 s o h1
    cases o with
    | inl t => exact h2
    | inr r => exact h2) (fun h1 h2 => zw_FR.tr h2 h1) n s r h
theorem fr_X1_gradeBy (U : Nat → Prop) {R : zR} (hU : ∀ o j, U o → U (R o j)) (v0 : Nat) (v1 : Nat) (v2 : Nat) (I : zI) (J : zJ) (hv2 : U v2) (o : Int32 × zI) (hf : f_X1_gradeBy v0 v1 v2 I R = some o) : zw_FR U (o.2) (I) (J) (J) := by
  have hF : zw_FR U I I J J := zw_FR.rf
  unfold f_X1_gradeBy at hf
  obtain ⟨q10, hq10, hf⟩ := zw_bdE hf
  have hF := (fr_s_X1_gradeBy_2_lp U hU v0 v1 v2 J hv2 _ _ _ hq10).tr hF
  rcases q10 with a11 | a12
  ·
    cases hf
    exact hF
  ·
    cases hf
    exact hF
def zp_X1_priceBy_2 (I : zI) (J : zJ) (o : (Int32 × zI) ⊕ ((zI) ⊕ (Int32 × zI))) : zI × zJ := match o with | .inl t => (t.2, J) | .inr r => (match r with | .inl r0 => (r0, J) | .inr t0 => (t0.2, J))
theorem fr_s_X1_priceBy_2 (U : Nat → Prop) {R : zR} (hU : ∀ o j, U o → U (R o j)) (v0 : Nat) (v1 : Nat) (v2 : Nat) (J : zJ) (hv2 : U v2) (s : Int32 × zI) (o : (Int32 × zI) ⊕ ((zI) ⊕ (Int32 × zI))) (hf : s_X1_priceBy_2 v0 v1 v2 R s = some o) : zw_FR U (zp_X1_priceBy_2 s.2 J o).1 (s.2) (zp_X1_priceBy_2 s.2 J o).2 (J) := by
  have hF : zw_FR U (s.2) (s.2) (J) (J) := zw_FR.rf
  unfold s_X1_priceBy_2 at hf
  obtain ⟨g1, hf⟩ := zw_gcE hf (by decide)
  rcases zw_ifE hf with ⟨c2, hf⟩ | ⟨c2, hf⟩
  ·
    cases hf
    exact hF
  ·
    obtain ⟨g3, hf⟩ := zw_gcE hf (by decide)
    obtain ⟨i4, hf⟩ := zw_inE hf
    obtain ⟨g5, hf⟩ := zw_gcE hf (by decide)
    obtain ⟨g6, hf⟩ := zw_gcE hf (by decide)
    obtain ⟨q7, hq7, hf⟩ := zw_bdE hf
    have hF := (fr_X4_holds U hU v2 v0 (R (R v0 8) (Int32.toNatClampNeg s.1)) v1 s.2 J hv2 _ hq7).tr hF
    rcases zw_ifE hf with ⟨c8, hf⟩ | ⟨c8, hf⟩
    ·
      obtain ⟨x9, ex9, hf⟩ := zw_letE hf
      cases hf
      exact hF
    ·
      cases hf
      exact hF
theorem fr_s_X1_priceBy_2_lp (U : Nat → Prop) {R : zR} (hU : ∀ o j, U o → U (R o j)) (v0 : Nat) (v1 : Nat) (v2 : Nat) (J : zJ) (hv2 : U v2) (n : Nat) (s : Int32 × zI) (r : (zI) ⊕ (Int32 × zI)) (h : zw_it (s_X1_priceBy_2 v0 v1 v2 R) n s = some r) : zw_FR U (zp_X1_priceBy_2 (s.2) (J) (.inr r)).1 (s.2) (zp_X1_priceBy_2 (s.2) (J) (.inr r)).2 (J) :=
  zw_itF (A := fun t t0 : Int32 × zI => zw_FR U (t.2) (t0.2) (J) (J)) (Q := fun (r : (zI) ⊕ (Int32 × zI)) (t : Int32 × zI) => zw_FR U (zp_X1_priceBy_2 (t.2) (J) (.inr r)).1 (t.2) (zp_X1_priceBy_2 (t.2) (J) (.inr r)).2 (J)) (fun s o h1 => by
    have h2 := fr_s_X1_priceBy_2 U hU v0 v1 v2 J hv2 s o h1
    cases o with
    | inl t => exact h2
    | inr r => exact h2) (fun h1 h2 => zw_FR.tr h2 h1) n s r h
theorem fr_X1_priceBy (U : Nat → Prop) {R : zR} (hU : ∀ o j, U o → U (R o j)) (v0 : Nat) (v1 : Nat) (v2 : Nat) (I : zI) (J : zJ) (hv2 : U v2) (o : Int32 × zI) (hf : f_X1_priceBy v0 v1 v2 I R = some o) : zw_FR U (o.2) (I) (J) (J) := by
  have hF : zw_FR U I I J J := zw_FR.rf
  unfold f_X1_priceBy at hf
  obtain ⟨q10, hq10, hf⟩ := zw_bdE hf
  have hF := (fr_s_X1_priceBy_2_lp U hU v0 v1 v2 J hv2 _ _ _ hq10).tr hF
  rcases q10 with a11 | a12
  ·
    cases hf
    exact hF
  ·
    obtain ⟨g13, hf⟩ := zw_gcE hf (by decide)
    obtain ⟨g14, hf⟩ := zw_gcE hf (by decide)
    obtain ⟨i15, hf⟩ := zw_inE hf
    obtain ⟨g16, hf⟩ := zw_gcE hf (by decide)
    obtain ⟨g17, hf⟩ := zw_gcE hf (by decide)
    obtain ⟨q18, hq18, hf⟩ := zw_bdE hf
    have hF := (fr_X4_worth U hU v2 v0 (R (R v0 8) (Int32.toNatClampNeg a12.1)) v1 a12.2 J hv2 _ hq18).tr hF
    obtain ⟨x19, ex19, hf⟩ := zw_letE hf
    obtain ⟨x20, ex20, hf⟩ := zw_letE hf
    cases hf
    exact hF
def zp_X10_barringTest_2 (I : zI) (J : zJ) (o : (Int32 × zI) ⊕ ((zI) ⊕ (Int32 × zI))) : zI × zJ := match o with | .inl t => (t.2, J) | .inr r => (match r with | .inl r0 => (r0, J) | .inr t0 => (t0.2, J))
theorem fr_j_X10_barringTest_78_2 (U : Nat → Prop) {R : zR} (hU : ∀ o j, U o → U (R o j)) (v0 : Nat) (v1 : Int32) (v2 : Int32) (v3 : Int32) (I : zI) (J : zJ)  (o : (Int32 × zI) ⊕ ((zI) ⊕ (Int32 × zI))) (hf : j_X10_barringTest_78_2 v0 v1 v2 v3 I R = some o) : zw_FR U (zp_X10_barringTest_2 I J o).1 (I) (zp_X10_barringTest_2 I J o).2 (J) := by
  have hF : zw_FR U I I J J := zw_FR.rf
  unfold j_X10_barringTest_78_2 at hf
  obtain ⟨x6, ex6, hf⟩ := zw_letE hf
  cases hf
  exact hF
theorem fr_s_X10_barringTest_2 (U : Nat → Prop) {R : zR} (hU : ∀ o j, U o → U (R o j)) (v0 : Nat) (v1 : Int32) (v2 : Int32) (J : zJ) (hv0 : U v0) (s : Int32 × zI) (o : (Int32 × zI) ⊕ ((zI) ⊕ (Int32 × zI))) (hf : s_X10_barringTest_2 v0 v1 v2 R s = some o) : zw_FR U (zp_X10_barringTest_2 s.2 J o).1 (s.2) (zp_X10_barringTest_2 s.2 J o).2 (J) := by
  have hF : zw_FR U (s.2) (s.2) (J) (J) := zw_FR.rf
  unfold s_X10_barringTest_2 at hf
  rcases zw_ifE hf with ⟨c1, hf⟩ | ⟨c1, hf⟩
  ·
    cases hf
    exact hF
  ·
    obtain ⟨g2, hf⟩ := zw_gcE hf (by decide)
    obtain ⟨g3, hf⟩ := zw_gcE hf (by decide)
    obtain ⟨q4, hq4, hf⟩ := zw_bdE hf
    rcases zw_ifE hf with ⟨c5, hf⟩ | ⟨c5, hf⟩
    ·
      exact (fr_j_X10_barringTest_78_2 U hU v0 v1 v2 s.1 s.2 J  _ hf).tr hF
    ·
      obtain ⟨g7, hf⟩ := zw_gcE hf (by decide)
      obtain ⟨i8, hf⟩ := zw_inE hf
      obtain ⟨g9, hf⟩ := zw_gcE hf (by decide)
      obtain ⟨i10, hf⟩ := zw_inE hf
      obtain ⟨q11, hq11, hf⟩ := zw_bdE hf
      have hF := (fr_X10_brightOf U hU v0 (s.2 (R (R v0 11) 1) (Int32.toNatClampNeg s.1)) v1 (s.2 (R (R v0 11) 2) (Int32.toNatClampNeg s.1)) s.2 J hv0 _ hq11).tr hF
      obtain ⟨g12, hf⟩ := zw_gcE hf (by decide)
      obtain ⟨i13, hf⟩ := zw_inE hf
      obtain ⟨x14, ex14, hf⟩ := zw_letE hf
      obtain ⟨i15, hf⟩ := zw_inE hf
      rcases zw_ifE hf with ⟨c16, hf⟩ | ⟨c16, hf⟩
      ·
        exact (fr_j_X10_barringTest_78_2 U hU v0 v1 v2 s.1 q11.2 J  _ hf).tr hF
      ·
        cases hf
        exact hF
theorem fr_s_X10_barringTest_2_lp (U : Nat → Prop) {R : zR} (hU : ∀ o j, U o → U (R o j)) (v0 : Nat) (v1 : Int32) (v2 : Int32) (J : zJ) (hv0 : U v0) (n : Nat) (s : Int32 × zI) (r : (zI) ⊕ (Int32 × zI)) (h : zw_it (s_X10_barringTest_2 v0 v1 v2 R) n s = some r) : zw_FR U (zp_X10_barringTest_2 (s.2) (J) (.inr r)).1 (s.2) (zp_X10_barringTest_2 (s.2) (J) (.inr r)).2 (J) :=
  zw_itF (A := fun t t0 : Int32 × zI => zw_FR U (t.2) (t0.2) (J) (J)) (Q := fun (r : (zI) ⊕ (Int32 × zI)) (t : Int32 × zI) => zw_FR U (zp_X10_barringTest_2 (t.2) (J) (.inr r)).1 (t.2) (zp_X10_barringTest_2 (t.2) (J) (.inr r)).2 (J)) (fun s o h1 => by
    have h2 := fr_s_X10_barringTest_2 U hU v0 v1 v2 J hv0 s o h1
    cases o with
    | inl t => exact h2
    | inr r => exact h2) (fun h1 h2 => zw_FR.tr h2 h1) n s r h
theorem fr_X10_barringTest (U : Nat → Prop) {R : zR} (hU : ∀ o j, U o → U (R o j)) (v0 : Nat) (v1 : Int32) (v2 : Int32) (I : zI) (J : zJ) (hv0 : U v0) (o : Int32 × zI) (hf : f_X10_barringTest v0 v1 v2 I R = some o) : zw_FR U (o.2) (I) (J) (J) := by
  have hF : zw_FR U I I J J := zw_FR.rf
  unfold f_X10_barringTest at hf
  obtain ⟨q17, hq17, hf⟩ := zw_bdE hf
  have hF := (fr_s_X10_barringTest_2_lp U hU v0 v1 v2 J hv0 _ _ _ hq17).tr hF
  rcases q17 with a18 | a19
  ·
    cases hf
    exact hF
  ·
    cases hf
    exact hF
theorem fr_X10_bright (U : Nat → Prop) {R : zR} (hU : ∀ o j, U o → U (R o j)) (v0 : Nat) (v1 : Int32) (v2 : Int32) (v3 : Int32) (I : zI) (J : zJ) (hv0 : U v0) (o : Int32 × zI) (hf : f_X10_bright v0 v1 v2 v3 I R = some o) : zw_FR U (o.2) (I) (J) (J) := by
  have hF : zw_FR U I I J J := zw_FR.rf
  unfold f_X10_bright at hf
  obtain ⟨g1, hf⟩ := zw_gcE hf (by decide)
  obtain ⟨q2, hq2, hf⟩ := zw_bdE hf
  rcases zw_ifE hf with ⟨c3, hf⟩ | ⟨c3, hf⟩
  ·
    cases hf
    exact hF
  ·
    obtain ⟨q4, hq4, hf⟩ := zw_bdE hf
    rcases zw_ifE hf with ⟨c5, hf⟩ | ⟨c5, hf⟩
    ·
      cases hf
      exact hF
    ·
      obtain ⟨q6, hq6, hf⟩ := zw_bdE hf
      rcases zw_ifE hf with ⟨c7, hf⟩ | ⟨c7, hf⟩
      ·
        cases hf
        exact hF
      ·
        obtain ⟨q8, hq8, hf⟩ := zw_bdE hf
        have hF := (fr_X10_brightOf U hU v0 v1 v2 v3 I J hv0 _ hq8).tr hF
        cases hf
        exact hF
def zp_X10_findPrices_2 (I : zI) (J : zJ) (o : (Int32 × zI) ⊕ (zI)) : zI × zJ := match o with | .inl t => (t.2, J) | .inr r => (r, J)
theorem fr_j_X10_findPrices_68_2 (U : Nat → Prop) {R : zR} (hU : ∀ o j, U o → U (R o j)) (v0 : Nat) (v1 : Int32) (v2 : Int32) (v3 : Int32) (I : zI) (J : zJ)  (o : (Int32 × zI) ⊕ (zI)) (hf : j_X10_findPrices_68_2 v0 v1 v2 v3 I R = some o) : zw_FR U (zp_X10_findPrices_2 I J o).1 (I) (zp_X10_findPrices_2 I J o).2 (J) := by
  have hF : zw_FR U I I J J := zw_FR.rf
  unfold j_X10_findPrices_68_2 at hf
  obtain ⟨x6, ex6, hf⟩ := zw_letE hf
  cases hf
  exact hF
theorem fr_s_X10_findPrices_2 (U : Nat → Prop) {R : zR} (hU : ∀ o j, U o → U (R o j)) (v0 : Nat) (v1 : Int32) (v2 : Int32) (J : zJ) (hv0 : U v0) (s : Int32 × zI) (o : (Int32 × zI) ⊕ (zI)) (hf : s_X10_findPrices_2 v0 v1 v2 R s = some o) : zw_FR U (zp_X10_findPrices_2 s.2 J o).1 (s.2) (zp_X10_findPrices_2 s.2 J o).2 (J) := by
  have hF : zw_FR U (s.2) (s.2) (J) (J) := zw_FR.rf
  unfold s_X10_findPrices_2 at hf
  obtain ⟨g1, hf⟩ := zw_gcE hf (by decide)
  obtain ⟨g2, hf⟩ := zw_gcE hf (by decide)
  rcases zw_ifE hf with ⟨c3, hf⟩ | ⟨c3, hf⟩
  ·
    cases hf
    exact hF
  ·
    obtain ⟨q4, hq4, hf⟩ := zw_bdE hf
    rcases zw_ifE hf with ⟨c5, hf⟩ | ⟨c5, hf⟩
    ·
      exact (fr_j_X10_findPrices_68_2 U hU v0 v1 v2 s.1 s.2 J  _ hf).tr hF
    ·
      obtain ⟨g7, hf⟩ := zw_gcE hf (by decide)
      obtain ⟨g8, hf⟩ := zw_gcE hf (by decide)
      obtain ⟨i9, hf⟩ := zw_inE hf
      obtain ⟨g10, hf⟩ := zw_gcE hf (by decide)
      obtain ⟨g11, hf⟩ := zw_gcE hf (by decide)
      obtain ⟨i12, hf⟩ := zw_inE hf
      obtain ⟨g13, hf⟩ := zw_gcE hf (by decide)
      obtain ⟨q14, hq14, hf⟩ := zw_bdE hf
      have hF := (fr_X6_lightUp U hU (R v0 7) (R (R (R v0 2) 2) (Int32.toNatClampNeg s.1)) (R (R (R v0 2) 0) (Int32.toNatClampNeg v2)) 0 s.2 J (hU _ _ hv0) _ hq14).tr hF
      obtain ⟨g15, hf⟩ := zw_gcE hf (by decide)
      obtain ⟨g16, hf⟩ := zw_gcE hf (by decide)
      obtain ⟨q17, hq17, hf⟩ := zw_bdE hf
      have hF := (fr_X1_priceBy U hU (R v0 2) (R v0 7) (R v0 8) q14 J (hU _ _ hv0) _ hq17).tr hF
      obtain ⟨i18, hf⟩ := zw_inE hf
      obtain ⟨I19, eI19, hf⟩ := zw_letE hf
      have hF := hF.wI eI19 (hU _ _ hv0)
      exact (fr_j_X10_findPrices_68_2 U hU v0 v1 v2 s.1 I19 J  _ hf).tr hF
theorem fr_s_X10_findPrices_2_lp (U : Nat → Prop) {R : zR} (hU : ∀ o j, U o → U (R o j)) (v0 : Nat) (v1 : Int32) (v2 : Int32) (J : zJ) (hv0 : U v0) (n : Nat) (s : Int32 × zI) (r : zI) (h : zw_it (s_X10_findPrices_2 v0 v1 v2 R) n s = some r) : zw_FR U (zp_X10_findPrices_2 (s.2) (J) (.inr r)).1 (s.2) (zp_X10_findPrices_2 (s.2) (J) (.inr r)).2 (J) :=
  zw_itF (A := fun t t0 : Int32 × zI => zw_FR U (t.2) (t0.2) (J) (J)) (Q := fun (r : zI) (t : Int32 × zI) => zw_FR U (zp_X10_findPrices_2 (t.2) (J) (.inr r)).1 (t.2) (zp_X10_findPrices_2 (t.2) (J) (.inr r)).2 (J)) (fun s o h1 => by
    have h2 := fr_s_X10_findPrices_2 U hU v0 v1 v2 J hv0 s o h1
    cases o with
    | inl t => exact h2
    | inr r => exact h2) (fun h1 h2 => zw_FR.tr h2 h1) n s r h
theorem fr_X10_findPrices (U : Nat → Prop) {R : zR} (hU : ∀ o j, U o → U (R o j)) (v0 : Nat) (v1 : Int32) (v2 : Int32) (I : zI) (J : zJ) (hv0 : U v0) (o : zI) (hf : f_X10_findPrices v0 v1 v2 I R = some o) : zw_FR U (o) (I) (J) (J) := by
  have hF : zw_FR U I I J J := zw_FR.rf
  unfold f_X10_findPrices at hf
  obtain ⟨q20, hq20, hf⟩ := zw_bdE hf
  have hF := (fr_s_X10_findPrices_2_lp U hU v0 v1 v2 J hv0 _ _ _ hq20).tr hF
  cases hf
  exact hF
theorem fr_X10_grade (U : Nat → Prop) {R : zR} (hU : ∀ o j, U o → U (R o j)) (v0 : Nat) (I : zI) (J : zJ) (hv0 : U v0) (o : Int32 × zI) (hf : f_X10_grade v0 I R = some o) : zw_FR U (o.2) (I) (J) (J) := by
  have hF : zw_FR U I I J J := zw_FR.rf
  unfold f_X10_grade at hf
  obtain ⟨g1, hf⟩ := zw_gcE hf (by decide)
  rcases zw_ifE hf with ⟨c2, hf⟩ | ⟨c2, hf⟩
  ·
    cases hf
    exact hF
  ·
    obtain ⟨g3, hf⟩ := zw_gcE hf (by decide)
    obtain ⟨g4, hf⟩ := zw_gcE hf (by decide)
    obtain ⟨g5, hf⟩ := zw_gcE hf (by decide)
    obtain ⟨q6, hq6, hf⟩ := zw_bdE hf
    have hF := (fr_X1_gradeBy U hU (R v0 2) (R v0 5) (R v0 8) I J (hU _ _ hv0) _ hq6).tr hF
    cases hf
    exact hF
theorem fr_X10_price (U : Nat → Prop) {R : zR} (hU : ∀ o j, U o → U (R o j)) (v0 : Nat) (I : zI) (J : zJ) (hv0 : U v0) (o : Int32 × zI) (hf : f_X10_price v0 I R = some o) : zw_FR U (o.2) (I) (J) (J) := by
  have hF : zw_FR U I I J J := zw_FR.rf
  unfold f_X10_price at hf
  obtain ⟨g1, hf⟩ := zw_gcE hf (by decide)
  rcases zw_ifE hf with ⟨c2, hf⟩ | ⟨c2, hf⟩
  ·
    cases hf
    exact hF
  ·
    obtain ⟨g3, hf⟩ := zw_gcE hf (by decide)
    obtain ⟨g4, hf⟩ := zw_gcE hf (by decide)
    obtain ⟨g5, hf⟩ := zw_gcE hf (by decide)
    obtain ⟨q6, hq6, hf⟩ := zw_bdE hf
    have hF := (fr_X1_priceBy U hU (R v0 2) (R v0 5) (R v0 8) I J (hU _ _ hv0) _ hq6).tr hF
    cases hf
    exact hF
def zp_X10_spread_11 (I : zI) (J : zJ) (o : (Int32 × Int32 × Int32 × zI) ⊕ (Int32 × Int32 × zI)) : zI × zJ := match o with | .inl t => (t.2.2.2, J) | .inr r => (r.2.2, J)
theorem fr_j_X10_spread_60_11 (U : Nat → Prop) {R : zR} (hU : ∀ o j, U o → U (R o j)) (v0 : Nat) (v1 : Int32) (v2 : Int32) (v3 : Int32) (v4 : Int32) (v5 : Int32) (v6 : Int32) (I : zI) (J : zJ)  (o : (Int32 × Int32 × Int32 × zI) ⊕ (Int32 × Int32 × zI)) (hf : j_X10_spread_60_11 v0 v1 v2 v3 v4 v5 v6 I R = some o) : zw_FR U (zp_X10_spread_11 I J o).1 (I) (zp_X10_spread_11 I J o).2 (J) := by
  have hF : zw_FR U I I J J := zw_FR.rf
  unfold j_X10_spread_60_11 at hf
  obtain ⟨x6, ex6, hf⟩ := zw_letE hf
  cases hf
  exact hF
theorem fr_s_X10_spread_11 (U : Nat → Prop) {R : zR} (hU : ∀ o j, U o → U (R o j)) (v0 : Nat) (v1 : Int32) (v2 : Int32) (v3 : Int32) (J : zJ) (hv0 : U v0) (s : Int32 × Int32 × Int32 × zI) (o : (Int32 × Int32 × Int32 × zI) ⊕ (Int32 × Int32 × zI)) (hf : s_X10_spread_11 v0 v1 v2 v3 R s = some o) : zw_FR U (zp_X10_spread_11 s.2.2.2 J o).1 (s.2.2.2) (zp_X10_spread_11 s.2.2.2 J o).2 (J) := by
  have hF : zw_FR U (s.2.2.2) (s.2.2.2) (J) (J) := zw_FR.rf
  unfold s_X10_spread_11 at hf
  obtain ⟨g1, hf⟩ := zw_gcE hf (by decide)
  obtain ⟨g2, hf⟩ := zw_gcE hf (by decide)
  rcases zw_ifE hf with ⟨c3, hf⟩ | ⟨c3, hf⟩
  ·
    cases hf
    exact hF
  ·
    obtain ⟨q4, hq4, hf⟩ := zw_bdE hf
    rcases zw_ifE hf with ⟨c5, hf⟩ | ⟨c5, hf⟩
    ·
      exact (fr_j_X10_spread_60_11 U hU v0 v1 v2 v3 s.1 s.2.1 s.2.2.1 s.2.2.2 J  _ hf).tr hF
    ·
      obtain ⟨q7, hq7, hf⟩ := zw_bdE hf
      have hF := (fr_X10_brightOf U hU v0 v1 s.2.2.1 v2 s.2.2.2 J hv0 _ hq7).tr hF
      obtain ⟨x8, ex8, hf⟩ := zw_letE hf
      obtain ⟨x9, ex9, hf⟩ := zw_letE hf
      exact (fr_j_X10_spread_60_11 U hU v0 v1 v2 v3 x8 x9 s.2.2.1 q7.2 J  _ hf).tr hF
theorem fr_s_X10_spread_11_lp (U : Nat → Prop) {R : zR} (hU : ∀ o j, U o → U (R o j)) (v0 : Nat) (v1 : Int32) (v2 : Int32) (v3 : Int32) (J : zJ) (hv0 : U v0) (n : Nat) (s : Int32 × Int32 × Int32 × zI) (r : Int32 × Int32 × zI) (h : zw_it (s_X10_spread_11 v0 v1 v2 v3 R) n s = some r) : zw_FR U (zp_X10_spread_11 (s.2.2.2) (J) (.inr r)).1 (s.2.2.2) (zp_X10_spread_11 (s.2.2.2) (J) (.inr r)).2 (J) :=
  zw_itF (A := fun t t0 : Int32 × Int32 × Int32 × zI => zw_FR U (t.2.2.2) (t0.2.2.2) (J) (J)) (Q := fun (r : Int32 × Int32 × zI) (t : Int32 × Int32 × Int32 × zI) => zw_FR U (zp_X10_spread_11 (t.2.2.2) (J) (.inr r)).1 (t.2.2.2) (zp_X10_spread_11 (t.2.2.2) (J) (.inr r)).2 (J)) (fun s o h1 => by
    have h2 := fr_s_X10_spread_11 U hU v0 v1 v2 v3 J hv0 s o h1
    cases o with
    | inl t => exact h2
    | inr r => exact h2) (fun h1 h2 => zw_FR.tr h2 h1) n s r h
theorem fr_X10_spread (U : Nat → Prop) {R : zR} (hU : ∀ o j, U o → U (R o j)) (v0 : Nat) (v1 : Int32) (v2 : Int32) (v3 : Int32) (I : zI) (J : zJ) (hv0 : U v0) (o : Int32 × zI) (hf : f_X10_spread v0 v1 v2 v3 I R = some o) : zw_FR U (o.2) (I) (J) (J) := by
  have hF : zw_FR U I I J J := zw_FR.rf
  unfold f_X10_spread at hf
  obtain ⟨q10, hq10, hf⟩ := zw_bdE hf
  have hF := (fr_s_X10_spread_11_lp U hU v0 v1 v2 v3 J hv0 _ _ _ hq10).tr hF
  cases hf
  exact hF
theorem fr_X11_brightOf (U : Nat → Prop) {R : zR} (hU : ∀ o j, U o → U (R o j)) (v0 : Nat) (v1 : Int32) (v2 : Int32) (v3 : Int32) (I : zI) (J : zJ) (hv0 : U v0) (o : Int32 × zI) (hf : f_X11_brightOf v0 v1 v2 v3 I R = some o) : zw_FR U (o.2) (I) (J) (J) := by
  have hF : zw_FR U I I J J := zw_FR.rf
  unfold f_X11_brightOf at hf
  obtain ⟨g1, hf⟩ := zw_gcE hf (by decide)
  obtain ⟨q2, hq2, hf⟩ := zw_bdE hf
  have hF := (fr_X11_shines U hU v0 ((10 * (I v0 18)) + v1) ((4 * (I v0 18)) + v2) v3 1000 0 0 1 0 I J hv0 _ hq2).tr hF
  obtain ⟨g3, hf⟩ := zw_gcE hf (by decide)
  obtain ⟨i4, hf⟩ := zw_inE hf
  cases hf
  exact hF
def zp_X11_prices_2 (I : zI) (J : zJ) (o : (Int32 × zI) ⊕ (zI)) : zI × zJ := match o with | .inl t => (t.2, J) | .inr r => (r, J)
theorem fr_j_X11_prices_62_2 (U : Nat → Prop) {R : zR} (hU : ∀ o j, U o → U (R o j)) (v0 : Nat) (v1 : Int32) (v2 : Int32) (v3 : Int32) (I : zI) (J : zJ)  (o : (Int32 × zI) ⊕ (zI)) (hf : j_X11_prices_62_2 v0 v1 v2 v3 I R = some o) : zw_FR U (zp_X11_prices_2 I J o).1 (I) (zp_X11_prices_2 I J o).2 (J) := by
  have hF : zw_FR U I I J J := zw_FR.rf
  unfold j_X11_prices_62_2 at hf
  obtain ⟨x12, ex12, hf⟩ := zw_letE hf
  cases hf
  exact hF
theorem fr_s_X11_prices_2 (U : Nat → Prop) {R : zR} (hU : ∀ o j, U o → U (R o j)) (v0 : Nat) (v1 : Int32) (v2 : Int32) (J : zJ) (hv0 : U v0) (s : Int32 × zI) (o : (Int32 × zI) ⊕ (zI)) (hf : s_X11_prices_2 v0 v1 v2 R s = some o) : zw_FR U (zp_X11_prices_2 s.2 J o).1 (s.2) (zp_X11_prices_2 s.2 J o).2 (J) := by
  have hF : zw_FR U (s.2) (s.2) (J) (J) := zw_FR.rf
  unfold s_X11_prices_2 at hf
  obtain ⟨g1, hf⟩ := zw_gcE hf (by decide)
  obtain ⟨g2, hf⟩ := zw_gcE hf (by decide)
  obtain ⟨i3, hf⟩ := zw_inE hf
  rcases zw_ifE hf with ⟨c4, hf⟩ | ⟨c4, hf⟩
  ·
    cases hf
    exact hF
  ·
    rcases zw_ifE hf with ⟨c5, hf⟩ | ⟨c5, hf⟩
    ·
      obtain ⟨q6, hq6, hf⟩ := zw_bdE hf
      obtain ⟨q7, hq7, hf⟩ := zw_bdE hf
      have hF := (fr_X11_shines U hU v0 ((10 * (s.2 v0 18)) + s.1) q6 0 1000 0 0 1 0 s.2 J hv0 _ hq7).tr hF
      obtain ⟨g8, hf⟩ := zw_gcE hf (by decide)
      obtain ⟨q9, hq9, hf⟩ := zw_bdE hf
      have hF := (fr_X11_priceNow U hU v0 q7 J hv0 _ hq9).tr hF
      obtain ⟨i10, hf⟩ := zw_inE hf
      obtain ⟨I11, eI11, hf⟩ := zw_letE hf
      have hF := hF.wI eI11 (hU _ _ hv0)
      exact (fr_j_X11_prices_62_2 U hU v0 v1 v2 s.1 I11 J  _ hf).tr hF
    ·
      exact (fr_j_X11_prices_62_2 U hU v0 v1 v2 s.1 s.2 J  _ hf).tr hF
theorem fr_s_X11_prices_2_lp (U : Nat → Prop) {R : zR} (hU : ∀ o j, U o → U (R o j)) (v0 : Nat) (v1 : Int32) (v2 : Int32) (J : zJ) (hv0 : U v0) (n : Nat) (s : Int32 × zI) (r : zI) (h : zw_it (s_X11_prices_2 v0 v1 v2 R) n s = some r) : zw_FR U (zp_X11_prices_2 (s.2) (J) (.inr r)).1 (s.2) (zp_X11_prices_2 (s.2) (J) (.inr r)).2 (J) :=
  zw_itF (A := fun t t0 : Int32 × zI => zw_FR U (t.2) (t0.2) (J) (J)) (Q := fun (r : zI) (t : Int32 × zI) => zw_FR U (zp_X11_prices_2 (t.2) (J) (.inr r)).1 (t.2) (zp_X11_prices_2 (t.2) (J) (.inr r)).2 (J)) (fun s o h1 => by
    have h2 := fr_s_X11_prices_2 U hU v0 v1 v2 J hv0 s o h1
    cases o with
    | inl t => exact h2
    | inr r => exact h2) (fun h1 h2 => zw_FR.tr h2 h1) n s r h
theorem fr_X11_prices (U : Nat → Prop) {R : zR} (hU : ∀ o j, U o → U (R o j)) (v0 : Nat) (v1 : Int32) (v2 : Int32) (I : zI) (J : zJ) (hv0 : U v0) (o : zI) (hf : f_X11_prices v0 v1 v2 I R = some o) : zw_FR U (o) (I) (J) (J) := by
  have hF : zw_FR U I I J J := zw_FR.rf
  unfold f_X11_prices at hf
  obtain ⟨q13, hq13, hf⟩ := zw_bdE hf
  have hF := (fr_s_X11_prices_2_lp U hU v0 v1 v2 J hv0 _ _ _ hq13).tr hF
  cases hf
  exact hF
def zp_X11_shine_109 (I : zI) (J : zJ) (o : (Int32 × zI) ⊕ (zI)) : zI × zJ := match o with | .inl t => (t.2, J) | .inr r => (r, J)
theorem fr_s_X11_shine_109 (U : Nat → Prop) {R : zR} (hU : ∀ o j, U o → U (R o j)) (v0 : Nat) (J : zJ) (hv0 : U v0) (s : Int32 × zI) (o : (Int32 × zI) ⊕ (zI)) (hf : s_X11_shine_109 v0 R s = some o) : zw_FR U (zp_X11_shine_109 s.2 J o).1 (s.2) (zp_X11_shine_109 s.2 J o).2 (J) := by
  have hF : zw_FR U (s.2) (s.2) (J) (J) := zw_FR.rf
  unfold s_X11_shine_109 at hf
  rcases zw_ifE hf with ⟨c19, hf⟩ | ⟨c19, hf⟩
  ·
    cases hf
    exact hF
  ·
    obtain ⟨g20, hf⟩ := zw_gcE hf (by decide)
    obtain ⟨g21, hf⟩ := zw_gcE hf (by decide)
    obtain ⟨g22, hf⟩ := zw_gcE hf (by decide)
    obtain ⟨i23, hf⟩ := zw_inE hf
    obtain ⟨i24, hf⟩ := zw_inE hf
    obtain ⟨I25, eI25, hf⟩ := zw_letE hf
    have hF := hF.wI eI25 (hU _ _ hv0)
    obtain ⟨x26, ex26, hf⟩ := zw_letE hf
    cases hf
    exact hF
theorem fr_s_X11_shine_109_lp (U : Nat → Prop) {R : zR} (hU : ∀ o j, U o → U (R o j)) (v0 : Nat) (J : zJ) (hv0 : U v0) (n : Nat) (s : Int32 × zI) (r : zI) (h : zw_it (s_X11_shine_109 v0 R) n s = some r) : zw_FR U (zp_X11_shine_109 (s.2) (J) (.inr r)).1 (s.2) (zp_X11_shine_109 (s.2) (J) (.inr r)).2 (J) :=
  zw_itF (A := fun t t0 : Int32 × zI => zw_FR U (t.2) (t0.2) (J) (J)) (Q := fun (r : zI) (t : Int32 × zI) => zw_FR U (zp_X11_shine_109 (t.2) (J) (.inr r)).1 (t.2) (zp_X11_shine_109 (t.2) (J) (.inr r)).2 (J)) (fun s o h1 => by
    have h2 := fr_s_X11_shine_109 U hU v0 J hv0 s o h1
    cases o with
    | inl t => exact h2
    | inr r => exact h2) (fun h1 h2 => zw_FR.tr h2 h1) n s r h
def zp_X11_shine_139 (I : zI) (J : zJ) (o : (Int32 × zI) ⊕ (zI)) : zI × zJ := match o with | .inl t => (t.2, J) | .inr r => (r, J)
theorem fr_s_X11_shine_139 (U : Nat → Prop) {R : zR} (hU : ∀ o j, U o → U (R o j)) (v0 : Nat) (J : zJ) (hv0 : U v0) (s : Int32 × zI) (o : (Int32 × zI) ⊕ (zI)) (hf : s_X11_shine_139 v0 R s = some o) : zw_FR U (zp_X11_shine_139 s.2 J o).1 (s.2) (zp_X11_shine_139 s.2 J o).2 (J) := by
  have hF : zw_FR U (s.2) (s.2) (J) (J) := zw_FR.rf
  unfold s_X11_shine_139 at hf
  rcases zw_ifE hf with ⟨c28, hf⟩ | ⟨c28, hf⟩
  ·
    cases hf
    exact hF
  ·
    obtain ⟨g29, hf⟩ := zw_gcE hf (by decide)
    obtain ⟨g30, hf⟩ := zw_gcE hf (by decide)
    obtain ⟨g31, hf⟩ := zw_gcE hf (by decide)
    obtain ⟨i32, hf⟩ := zw_inE hf
    obtain ⟨i33, hf⟩ := zw_inE hf
    obtain ⟨I34, eI34, hf⟩ := zw_letE hf
    have hF := hF.wI eI34 (hU _ _ hv0)
    obtain ⟨x35, ex35, hf⟩ := zw_letE hf
    cases hf
    exact hF
theorem fr_s_X11_shine_139_lp (U : Nat → Prop) {R : zR} (hU : ∀ o j, U o → U (R o j)) (v0 : Nat) (J : zJ) (hv0 : U v0) (n : Nat) (s : Int32 × zI) (r : zI) (h : zw_it (s_X11_shine_139 v0 R) n s = some r) : zw_FR U (zp_X11_shine_139 (s.2) (J) (.inr r)).1 (s.2) (zp_X11_shine_139 (s.2) (J) (.inr r)).2 (J) :=
  zw_itF (A := fun t t0 : Int32 × zI => zw_FR U (t.2) (t0.2) (J) (J)) (Q := fun (r : zI) (t : Int32 × zI) => zw_FR U (zp_X11_shine_139 (t.2) (J) (.inr r)).1 (t.2) (zp_X11_shine_139 (t.2) (J) (.inr r)).2 (J)) (fun s o h1 => by
    have h2 := fr_s_X11_shine_139 U hU v0 J hv0 s o h1
    cases o with
    | inl t => exact h2
    | inr r => exact h2) (fun h1 h2 => zw_FR.tr h2 h1) n s r h
theorem fr_X11_shine (U : Nat → Prop) {R : zR} (hU : ∀ o j, U o → U (R o j)) (v0 : Nat) (v1 : Int32) (v2 : Int32) (v3 : Int32) (v4 : Int32) (v5 : Int32) (v6 : Int32) (v7 : Int32) (v8 : Int32) (I : zI) (J : zJ) (hv0 : U v0) (o : Int32 × zI) (hf : f_X11_shine v0 v1 v2 v3 v4 v5 v6 v7 v8 I R = some o) : zw_FR U (o.2) (I) (J) (J) := by
  have hF : zw_FR U I I J J := zw_FR.rf
  unfold f_X11_shine at hf
  obtain ⟨g1, hf⟩ := zw_gcE hf (by decide)
  obtain ⟨q2, hq2, hf⟩ := zw_bdE hf
  obtain ⟨q3, hq3, hf⟩ := zw_bdE hf
  rcases zw_ifE hf with ⟨c4, hf⟩ | ⟨c4, hf⟩
  ·
    cases hf
    exact hF
  ·
    rcases zw_ifE hf with ⟨c5, hf⟩ | ⟨c5, hf⟩
    ·
      cases hf
      exact hF
    ·
      obtain ⟨q6, hq6, hf⟩ := zw_bdE hf
      rcases zw_ifE hf with ⟨c7, hf⟩ | ⟨c7, hf⟩
      ·
        cases hf
        exact hF
      ·
        obtain ⟨q8, hq8, hf⟩ := zw_bdE hf
        rcases zw_ifE hf with ⟨c9, hf⟩ | ⟨c9, hf⟩
        ·
          cases hf
          exact hF
        ·
          obtain ⟨q10, hq10, hf⟩ := zw_bdE hf
          rcases zw_ifE hf with ⟨c11, hf⟩ | ⟨c11, hf⟩
          ·
            cases hf
            exact hF
          ·
            obtain ⟨q12, hq12, hf⟩ := zw_bdE hf
            rcases zw_ifE hf with ⟨c13, hf⟩ | ⟨c13, hf⟩
            ·
              obtain ⟨q14, hq14, hf⟩ := zw_bdE hf
              have hF := (fr_X11_shines U hU v0 q2 q3 v3 v4 v5 v6 v7 v8 I J hv0 _ hq14).tr hF
              obtain ⟨I15, eI15, hf⟩ := zw_letE hf
              have hF := hF.wI eI15 hv0
              obtain ⟨g16, hf⟩ := zw_gcE hf (by decide)
              obtain ⟨i17, hf⟩ := zw_inE hf
              obtain ⟨I18, eI18, hf⟩ := zw_letE hf
              have hF := hF.wI eI18 hv0
              obtain ⟨q27, hq27, hf⟩ := zw_bdE hf
              have hF := (fr_s_X11_shine_109_lp U hU v0 J hv0 _ _ _ hq27).tr hF
              obtain ⟨q36, hq36, hf⟩ := zw_bdE hf
              have hF := (fr_s_X11_shine_139_lp U hU v0 J hv0 _ _ _ hq36).tr hF
              obtain ⟨g37, hf⟩ := zw_gcE hf (by decide)
              obtain ⟨g38, hf⟩ := zw_gcE hf (by decide)
              obtain ⟨i39, hf⟩ := zw_inE hf
              obtain ⟨i40, hf⟩ := zw_inE hf
              obtain ⟨I41, eI41, hf⟩ := zw_letE hf
              have hF := hF.wI eI41 (hU _ _ hv0)
              obtain ⟨i42, hf⟩ := zw_inE hf
              obtain ⟨i43, hf⟩ := zw_inE hf
              obtain ⟨I44, eI44, hf⟩ := zw_letE hf
              have hF := hF.wI eI44 (hU _ _ hv0)
              obtain ⟨i45, hf⟩ := zw_inE hf
              obtain ⟨i46, hf⟩ := zw_inE hf
              obtain ⟨I47, eI47, hf⟩ := zw_letE hf
              have hF := hF.wI eI47 (hU _ _ hv0)
              obtain ⟨i48, hf⟩ := zw_inE hf
              obtain ⟨i49, hf⟩ := zw_inE hf
              obtain ⟨I50, eI50, hf⟩ := zw_letE hf
              have hF := hF.wI eI50 (hU _ _ hv0)
              obtain ⟨i51, hf⟩ := zw_inE hf
              obtain ⟨I52, eI52, hf⟩ := zw_letE hf
              have hF := hF.wI eI52 (hU _ _ hv0)
              obtain ⟨i53, hf⟩ := zw_inE hf
              obtain ⟨I54, eI54, hf⟩ := zw_letE hf
              have hF := hF.wI eI54 (hU _ _ hv0)
              obtain ⟨i55, hf⟩ := zw_inE hf
              obtain ⟨I56, eI56, hf⟩ := zw_letE hf
              have hF := hF.wI eI56 (hU _ _ hv0)
              obtain ⟨i57, hf⟩ := zw_inE hf
              obtain ⟨I58, eI58, hf⟩ := zw_letE hf
              have hF := hF.wI eI58 (hU _ _ hv0)
              obtain ⟨i59, hf⟩ := zw_inE hf
              obtain ⟨I60, eI60, hf⟩ := zw_letE hf
              have hF := hF.wI eI60 (hU _ _ hv0)
              obtain ⟨i61, hf⟩ := zw_inE hf
              cases hf
              exact hF
            ·
              cases hf
              exact hF
