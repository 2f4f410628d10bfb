/-! ===== the model reads an expression ===== -/
def zm_kk (R : zR) (N : Nat) (x : Option ((Int32 × zI) ⊕ (zI ⊕ (zI ⊕ zI)))) : Option (zI ⊕ (zI ⊕ zI)) := x.bind fun z => match z with
  | .inl s => zw_it (s_X11_expression_12 148 0 R) N s
  | .inr r => some r
/-- from behind an operand -/
def zm_rB (R : zR) (M N : Nat) (I : zI) : Option (zI ⊕ (zI ⊕ zI)) := (zw_it (s_X11_expression_96 148 0 R) M I).bind fun q => zm_kk R N (j_X11_expression_145_12 148 0 q R)
/-- from before an operand -/
def zm_rA (R : zR) (L N : Nat) (I : zI) : Option (zI ⊕ (zI ⊕ zI)) := (zw_it (s_X11_expression_23 148 0 R) L I).bind fun q19 => (f_X11_unit 148 q19 R).bind fun q20 => (if (q20 148 13) ≤ 0 then zm_rB R 1000000 N q20 else some (.inr (.inl q20)))
def zm_A (R : zR) (Post : zI ⊕ (zI ⊕ zI) → Prop) (t : Nat) (I : zI) : Prop := ∀ L N, 502 - t ≤ L → 502 - t ≤ N → ∃ r, zm_rA R L N I = some r ∧ Post r
def zm_B (R : zR) (Post : zI ⊕ (zI ⊕ zI) → Prop) (t : Nat) (I : zI) : Prop := ∀ M N, 502 - t ≤ M → 502 - t ≤ N → ∃ r, zm_rB R M N I = some r ∧ Post r
theorem zm_s12 {R : zR} {I : zI} (N : Nat) (h : I 148 13 = 0) : zw_it (s_X11_expression_12 148 0 R) (N + 1) (1, I) = zm_rA R 1000000 N I := by
  have st : s_X11_expression_12 148 0 R (1, I) = (zw_it (s_X11_expression_23 148 0 R) 1000000 I).bind fun q19 => ((f_X11_unit 148 q19 R).bind fun q20 => (if (q20 148 13) ≤ 0 then (zw_it (s_X11_expression_96 148 0 R) 1000000 q20).bind fun q30 => (j_X11_expression_145_12 148 0 q30 R) else some (.inr (.inr (.inl q20))))) := by
    unfold s_X11_expression_12
    dsimp only
    rw [if_neg zE_10, zp_g148.1, zw_g_t, if_neg (fun r => r h)]
  show (s_X11_expression_12 148 0 R (1, I)).bind _ = _
  rw [st]
  unfold zm_rA
  cases zw_it (s_X11_expression_23 148 0 R) 1000000 I with
  | none => rfl
  | some q19 =>
    rw [Option.bind_some, Option.bind_some]
    cases f_X11_unit 148 q19 R with
    | none => rfl
    | some q20 =>
      rw [Option.bind_some, Option.bind_some]
      by_cases c : q20 148 13 ≤ 0
      · rw [if_pos c, if_pos c]
        unfold zm_rB
        cases zw_it (s_X11_expression_96 148 0 R) 1000000 q20 with
        | none => rfl
        | some q30 =>
          rw [Option.bind_some, Option.bind_some]
          unfold zm_kk
          cases j_X11_expression_145_12 148 0 q30 R with
          | none => rfl
          | some z => cases z <;> rfl
      · rw [if_neg c, if_neg c]
        rfl
theorem zm_s12F {R : zR} {I : zI} (N : Nat) (h : ¬ I 148 13 = 0) : zw_it (s_X11_expression_12 148 0 R) (N + 1) (1, I) = some (.inl I) := by
  refine zE_it0 N ?_
  unfold s_X11_expression_12
  dsimp only
  rw [if_neg zE_10, zp_g148.1, zw_g_t, if_pos h]
def zm_wo (W : List Nat) : Prop := ∀ w, w ∈ W → w = 6 ∨ w = 8 ∨ w = 9 ∨ w = 10 ∨ w = 15
/-- bounds that hold on the way -/
def zm_bd (m0 t0 t o : Nat) (W : List Nat) (c : List zr_C) : Prop := m0 ≤ 520 + t0 ∧ t ≤ 500 ∧ c.length + W.length + t0 ≤ t + 1 ∧ W.length ≤ 3 * o + 3 ∧ o ≤ 7 ∧ zm_wo W
/-- what a fault must lead to -/
def zm_PF (T : Nat → Nat) (n : Nat) (I0 : zI) (m0 t0 : Nat) (Post : zI ⊕ (zI ⊕ zI) → Prop) (y : Nat × Nat) : Prop := (∀ (I : zI) (t o : Nat) (W : List Nat) (c : List zr_C), zm_G T n I0 I m0 t o W c y → zm_bd m0 t0 t o W c → Post (.inl I) ∧ Post (.inr (.inl I)) ∧ Post (.inr (.inr I))) ∧ (y.1 = 1 → ∀ (I : zI) (o : Nat) (W : List Nat) (c : List zr_C), zm_G T n I0 I m0 y.2 o W c (0, 0) → 0 < o → zt_go T n y.2 → zm_bd m0 t0 y.2 o W c → Post (.inr (.inr I)))
theorem zm_ne {T : Nat → Nat} {n : Nat} {I0 I : zI} {m0 t o : Nat} {W : List Nat} {c : List zr_C} {y : Nat × Nat} (h : zm_G T n I0 I m0 t o W c y) (hy : y.1 = 1 ∨ y.1 = 2) : ¬ I 148 13 = 0 := by
  rw [h.2.1]
  rcases hy with e | e <;> rw [e] <;> decide
/-- no parenthesis opens here -/
theorem zm_noOpen {sw : Bool} {I : zI} {L : Nat} (h : f_X11_is 148 6 I (zE_R sw) = some 0) : zw_it (s_X11_expression_23 148 0 (zE_R sw)) (L + 1) I = some I := by
  refine zE_it0 L ?_
  unfold s_X11_expression_23
  rw [zp_g148.1, zw_g_t, h, Option.bind_some, if_pos rfl]
theorem zm_noClose {sw : Bool} {I : zI} {L : Nat} (h : f_X11_is 148 7 I (zE_R sw) = some 0) : zw_it (s_X11_expression_96 148 0 (zE_R sw)) (L + 1) I = some I := by
  refine zE_it0 L ?_
  unfold s_X11_expression_96
  rw [zp_g148.1, zw_g_t, h, Option.bind_some, if_pos rfl]
/-- the unit behind a fault -/
theorem zm_unitF {sw : Bool} {T : Nat → Nat} {n : Nat} {I0 I : zI} {m0 t o : Nat} {W : List Nat} {c : List zr_C} {y : Nat × Nat} (h : zm_G T n I0 I m0 t o W c y) (hy : y.1 = 1 ∨ y.1 = 2) : f_X11_unit 148 I (zE_R sw) = some I := by
  have h0 := zm_ne h hy
  unfold f_X11_unit j_X11_unit_88
  rw [zp_g148.1, zw_g_t, zp_isF h0, Option.bind_some, if_pos rfl, if_pos h0, zw_g_t, zp_failF hy h.2.1, Option.bind_some]
theorem zm_AF {sw : Bool} {T : Nat → Nat} {n : Nat} {I0 I : zI} {m0 t0 t o : Nat} {W : List Nat} {c : List zr_C} {y : Nat × Nat} {Post : zI ⊕ (zI ⊕ zI) → Prop} (hP : zm_PF T n I0 m0 t0 Post y) (hy : y.1 = 1 ∨ y.1 = 2) (h : zm_G T n I0 I m0 t o W c y) (hb : zm_bd m0 t0 t o W c) (L N : Nat) : ∃ r, zm_rA (zE_R sw) (L + 1) N I = some r ∧ Post r := by
  have h0 := zm_ne h hy
  refine ⟨.inr (.inl I), ?_, (hP.1 I t o W c h hb).2.1⟩
  unfold zm_rA
  rw [zm_noOpen (zp_isF h0), Option.bind_some, zm_unitF h hy, Option.bind_some, if_neg (show ¬ I 148 13 ≤ 0 by rw [h.2.1]; rcases hy with e | e <;> rw [e] <;> decide)]
/-- mk and the model's numbers -/
theorem zm_mkv : ∀ k, k ≤ 35 → ((30 ≤ zt_mk k ↔ 28 ≤ k) ∧ (28 ≤ k → zt_mk k - 30 = zp_mv (k - 28))) := by decide +kernel
/-- a number or a variable -/
theorem zm_unit {sw : Bool} {T : Nat → Nat} {n : Nat} {I0 I : zI} {J : zJ} {m0 t0 t o : Nat} {W : List Nat} {c : List zr_C} {Post : zI ⊕ (zI ⊕ zI) → Prop} {S : Nat → zp_O} (hY : zp_Y T n I0 J) (h : zm_G T n I0 I m0 t o W c (0, 0)) (hb : zm_bd m0 t0 t o W c) (hl : c.length + W.length + t0 ≤ t) (hg : zt_go T n t) (h12 : zt_K T n t ≠ 12) (hok : ∀ x, zp_U S (zt_K T n) (zp_V T n) o t = .inl x → ∀ I', zm_G T n I0 I' m0 x.1 o W (c ++ x.2) (0, 0) → zm_B (zE_R sw) Post x.1 I') (hf : ∀ y, zp_U S (zt_K T n) (zp_V T n) o t = .inr y → zm_PF T n I0 m0 t0 Post y) : zm_A (zE_R sw) Post t I := by
  obtain ⟨b1, b2, b3, b4, b5, b6⟩ := id hb
  have hY2 := zm_G_Y hY h
  have kb := zp_K35 hY.2.1 t
  have mb := zt_mk_b _ kb
  obtain ⟨mv1, mv2⟩ := zm_mkv _ kb
  obtain ⟨c1, -, c3, -⟩ := hY2.2.2 t b2 hg
  have h11 := h.2.2.2.1
  have h13 : I 148 13 = 0 := h.2.1
  have i1 : zw_in (nI t) 503 = true := zE_in (by omega) (by decide)
  have i2 : Int32.toNatClampNeg (nI t) = t := zE_cl (by omega)
  have is6 : f_X11_is 148 6 I (zE_R sw) = some 0 := by
    have := zp_is (sw := sw) (kc := 12) (kv := 6) hY2 b2 hg h13 h11 (by decide) rfl
    rw [decide_eq_false h12] at this
    exact this
  have is2 := zp_is (sw := sw) (kc := 3) (kv := 2) hY2 b2 hg h13 h11 (by decide) rfl
  intro L N hL hN
  obtain ⟨L, rfl⟩ : ∃ L', L = L' + 1 := ⟨L - 1, by omega⟩
  -- an item x at t
  have item : ∀ (k v : Nat), (∀ I1, f_X11_emit 148 (nI k) (nI v) I (zE_R sw) = some I1 → ∀ I2, f_X11_goesOn 148 I1 (zE_R sw) = some I2 → f_X11_unit 148 I (zE_R sw) = some I2) → zp_U S (zt_K T n) (zp_V T n) o t = (if t < 500 then .inl (t + 1, [(k, v)]) else .inr (2, t)) → ∃ r, zm_rA (zE_R sw) (L + 1) N I = some r ∧ Post r := by
    intro k v hu hU
    obtain ⟨I1, e1, e2⟩ := zm_emit (sw := sw) h (by omega) k v
    by_cases ct : t < 500
    · rw [if_pos ct] at hU
      obtain ⟨I2, o1, o2⟩ := zm_on (sw := sw) e2 ct
      obtain ⟨r, r1, r2⟩ := hok _ hU I2 o2 1000000 N (by show 502 - (t + 1) ≤ _; omega) (by show 502 - (t + 1) ≤ _; omega)
      refine ⟨r, ?_, r2⟩
      unfold zm_rA
      rw [zm_noOpen is6, Option.bind_some, hu I1 e1 I2 o1, Option.bind_some, if_pos (show I2 148 13 ≤ 0 by rw [o2.2.1]; decide), r1]
    · have e : t = 500 := by omega
      subst e
      rw [if_neg ct] at hU
      obtain ⟨I2, o1, o2⟩ := zm_fail (sw := sw) hY e2 (Nat.le_refl _) hg 2
      have on := zp_onE e2.2.2.2.1 o1
      refine ⟨.inr (.inl I2), ?_, ((hf _ hU).1 I2 500 o W _ o2 ⟨b1, b2, by rw [List.length_append]; show c.length + 1 + W.length + t0 ≤ 501; omega, b4, b5, b6⟩).2.1⟩
      unfold zm_rA
      rw [zm_noOpen is6, Option.bind_some, hu I1 e1 I2 on, Option.bind_some, if_neg (show ¬ I2 148 13 ≤ 0 by rw [o2.2.1]; decide)]
  by_cases k3 : zt_K T n t = 3
  · rw [decide_eq_true k3] at is2
    have e3 : I 153 t = nI (zp_V T n t) := c3
    refine item 0 (zp_V T n t) (fun I1 e1 I2 e2 => ?_) ?_
    · have e1 : f_X11_emit 148 0 (nI (zp_V T n t)) I (zE_R sw) = some I1 := e1
      unfold f_X11_unit
      rw [zp_g148.1, zw_g_t, is2, Option.bind_some, if_neg (show ¬ zr_b true = 0 by decide)]
      simp only [zE_rM sw, zp_g148.2.2.2.1, zE_sM, zw_g_t, h11, i1, i2, e3, e1, Option.bind_some, e2]
    · unfold zp_U
      rw [if_neg h12, if_neg (fun r => by omega), if_pos k3]
  · rw [decide_eq_false k3] at is2
    have is2 : f_X11_is 148 2 I (zE_R sw) = some 0 := is2
    by_cases kv : 28 ≤ zt_K T n t
    · have s30 : nI (zt_mk (zt_K T n t)) - 30 = nI (zp_mv (zt_K T n t - 28)) := by
        rw [show (30 : Int32) = nI 30 from rfl, pk_sub (mv1.mpr kv), mv2 kv]
      refine item 1 (zp_mv (zt_K T n t - 28)) (fun I1 e1 I2 e2 => ?_) ?_
      · have e1 : f_X11_emit 148 1 (nI (zp_mv (zt_K T n t - 28))) I (zE_R sw) = some I1 := e1
        unfold f_X11_unit
        rw [zp_g148.1, zw_g_t, is2, Option.bind_some, if_pos rfl, if_neg (fun r => r h13)]
        simp only [zE_rM sw, zp_g148.2.1, zE_sM, zw_g_t, h11, i1, i2, c1, s30, e1, Option.bind_some, e2, if_neg (show ¬ nI (zt_mk (zt_K T n t)) < (30 : Int32) from nI_nlt (b := 30) (mv1.mpr kv) (by omega)), if_neg (show ¬ (37 : Int32) < nI (zt_mk (zt_K T n t)) from nI_nlt (a := 37) mb (by decide))]
      · unfold zp_U
        rw [if_neg h12, if_pos ⟨kv, kb⟩]
    · have hU : zp_U S (zt_K T n) (zp_V T n) o t = .inr (1, t) := by
        unfold zp_U
        rw [if_neg h12, if_neg (fun r => kv r.1), if_neg k3]
      obtain ⟨I2, o1, o2⟩ := zm_fail (sw := sw) hY h b2 hg 1
      have o1 : f_X11_fail 148 1 I (zE_R sw) = some I2 := o1
      refine ⟨.inr (.inl I2), ?_, ((hf _ hU).1 I2 t o W c o2 hb).2.1⟩
      have m30 : zt_mk (zt_K T n t) < 30 := by
        rcases Nat.lt_or_ge (zt_mk (zt_K T n t)) 30 with q | q
        · exact q
        · exact absurd (mv1.mp q) kv
      have un : f_X11_unit 148 I (zE_R sw) = some I2 := by
        unfold f_X11_unit j_X11_unit_88
        rw [zp_g148.1, zw_g_t, is2, Option.bind_some, if_pos rfl, if_neg (fun r => r h13)]
        simp only [zE_rM sw, zp_g148.2.1, zE_sM, zw_g_t, h11, i1, i2, c1, o1, Option.bind_some, if_pos (show nI (zt_mk (zt_K T n t)) < (30 : Int32) from nI_lt (b := 30) m30 (by decide))]
      unfold zm_rA
      rw [zm_noOpen is6, Option.bind_some, un, Option.bind_some, if_neg (show ¬ I2 148 13 ≤ 0 by rw [show I2 148 13 = nI 1 from o2.2.1]; decide)]
/-- a parenthesis opens -/
theorem zm_open {sw : Bool} {T : Nat → Nat} {n : Nat} {I0 I : zI} {J : zJ} {m0 t0 t o : Nat} {W : List Nat} {c : List zr_C} {Post : zI ⊕ (zI ⊕ zI) → Prop} (hY : zp_Y T n I0 J) (h : zm_G T n I0 I m0 t o W c (0, 0)) (hb : zm_bd m0 t0 t o W c) (hl : c.length + W.length + t0 ≤ t) (ho : o ≤ 6) (hg : zt_go T n t) (h12 : zt_K T n t = 12) (hok : o < 6 → t < 500 → ∀ I', zm_G T n I0 I' m0 (t + 1) (o + 1) (6 :: W) c (0, 0) → zm_A (zE_R sw) Post (t + 1) I') (hf : ¬ (o < 6 ∧ t < 500) → zm_PF T n I0 m0 t0 Post (2, t)) : zm_A (zE_R sw) Post t I := by
  obtain ⟨b1, b2, b3, b4, b5, b6⟩ := id hb
  have hY2 := zm_G_Y hY h
  have h13 : I 148 13 = 0 := h.2.1
  have is6 : f_X11_is 148 6 I (zE_R sw) = some 1 := by
    have := zp_is (sw := sw) (kc := 12) (kv := 6) hY2 b2 hg h13 h.2.2.2.1 (by decide) rfl
    rw [decide_eq_true h12] at this
    exact this
  -- open one more, go on, and it waits
  have j46 : ∀ (K : zI) (φ : Nat × Nat), zm_G T n I0 K m0 t o W c φ → (φ.1 = 0 ∨ φ.1 = 1 ∨ φ.1 = 2) → ∃ I2, j_X11_expression_46_23 148 0 K (zE_R sw) = some (.inl I2) ∧ ((t < 500 ∧ zm_G T n I0 I2 m0 (t + 1) (o + 1) (6 :: W) c φ) ∨ (t = 500 ∧ φ.1 = 0 ∧ zm_G T n I0 I2 m0 500 (o + 1) (6 :: W) c (2, 500)) ∨ (t = 500 ∧ φ.1 ≠ 0 ∧ zm_G T n I0 I2 m0 500 (o + 1) (6 :: W) c φ)) := by
    intro K φ hK hφ
    obtain ⟨a1, a2, a3, a4, a5, -⟩ := id hK
    have u : zm_G T n I0 (zw_u K 148 12 (nI (o + 1))) m0 t (o + 1) W c φ := zm_G_u hK (fun a ha => zw_u_off _ _ _ ha) (by rw [zE_u2 _ _ (by omega)]; exact a2) (fun q => by rw [zE_u2 _ _ (by omega)]; exact a3 q) (by rw [zE_u2 _ _ (by omega)]; exact a4) (zE_u1 _ _ _ _) (zE_u2 _ _ (by omega)) (zE_u2 _ _ (by omega)) (fun y _ q _ _ _ _ => zE_u2 _ _ (by omega))
    obtain ⟨I1, t2, q1, q2, q3, q4⟩ := zm_onX (sw := sw) hY u b2 (fun _ => hg) hφ
    have fin : ∀ (t3 : Nat) (φ2 : Nat × Nat), zm_G T n I0 I1 m0 t3 (o + 1) W c φ2 → j_X11_expression_46_23 148 0 K (zE_R sw) = some (.inl (zw_u (zw_u I1 181 W.length (nI 6)) 148 48 (nI (W.length + 1)))) := by
      intro t3 φ2 hI
      have e48 : I1 148 48 = nI W.length := hI.2.2.2.2.2.2.1
      have e482 : zw_u I1 181 W.length 6 148 48 = nI W.length := by rw [zw_u_off _ _ _ (by decide)]; exact e48
      unfold j_X11_expression_46_23
      rw [zp_g148.1, zw_g_t, a5, nI_1, zw_let_e, q1, Option.bind_some]
      simp only [zE_rM sw, zp_g148.2.2.2.2.2.2, zE_sM, zw_g_t, zw_let_e, e48, zE_in (show W.length < 64 by omega) (by decide), zE_cl (show W.length < 2 ^ 31 by omega), e482, nI_1]
      rfl
    rcases q4 with ⟨p1, rfl, p2⟩ | ⟨p1, rfl, p2, p3⟩ | ⟨p1, rfl, p2, p3⟩
    · exact ⟨_, fin _ _ p2, Or.inl ⟨p1, zm_push p2 6⟩⟩
    · exact ⟨_, fin _ _ p3, Or.inr (Or.inl ⟨p1, p2, zm_push p3 6⟩)⟩
    · exact ⟨_, fin _ _ p3, Or.inr (Or.inr ⟨p1, p2, zm_push p3 6⟩)⟩
  intro L N hL hN
  obtain ⟨L, rfl⟩ : ∃ L', L = L' + 2 := ⟨L - 2, by omega⟩
  have wo6 : zm_wo (6 :: W) := fun w hw => by
    rcases List.mem_cons.mp hw with rfl | hw
    · exact Or.inl rfl
    · exact b6 w hw
  by_cases o6 : o < 6
  · obtain ⟨I2, p1, p2⟩ := j46 I (0, 0) h (Or.inl rfl)
    have st : s_X11_expression_23 148 0 (zE_R sw) I = some (.inl I2) := by
      unfold s_X11_expression_23
      rw [zp_g148.1, zw_g_t, is6, Option.bind_some, if_neg zE_10, if_pos (show ¬ I 148 12 = 6 by rw [h.2.2.2.2.1]; exact zr_ne (b := 6) (by omega) (by omega) (by decide)), p1]
    have go : zm_rA (zE_R sw) (L + 2) N I = zm_rA (zE_R sw) (L + 1) N I2 := by
      unfold zm_rA
      rw [zE_it1 (L + 1) st]
    rw [go]
    rcases p2 with ⟨q1, q2⟩ | ⟨q1, -, q2⟩ | ⟨-, q1, -⟩
    · exact hok o6 q1 I2 q2 (L + 1) N (by omega) (by omega)
    · exact zm_AF (y := (2, 500)) (by have := hf (fun r => by omega); rw [q1] at this; exact this) (Or.inr rfl) q2 ⟨b1, by omega, by show c.length + (W.length + 1) + t0 ≤ 501; omega, by show W.length + 1 ≤ 3 * (o + 1) + 3; omega, by omega, wo6⟩ L N
    · exact absurd rfl q1
  · obtain ⟨I1, f1, f2⟩ := zm_fail (sw := sw) hY h b2 hg 2
    have f1 : f_X11_fail 148 2 I (zE_R sw) = some I1 := f1
    obtain ⟨I2, p1, p2⟩ := j46 I1 (2, t) f2 (Or.inr (Or.inr rfl))
    have st : s_X11_expression_23 148 0 (zE_R sw) I = some (.inl I2) := by
      unfold s_X11_expression_23
      rw [zp_g148.1, zw_g_t, is6, Option.bind_some, if_neg zE_10, if_neg (show ¬ ¬ I 148 12 = 6 from fun r => r (by rw [h.2.2.2.2.1, show o = 6 by omega]; rfl)), f1, Option.bind_some, p1]
    have go : zm_rA (zE_R sw) (L + 2) N I = zm_rA (zE_R sw) (L + 1) N I2 := by
      unfold zm_rA
      rw [zE_it1 (L + 1) st]
    rw [go]
    have hP := hf (fun r => o6 r.1)
    rcases p2 with ⟨q1, q2⟩ | ⟨-, q1, -⟩ | ⟨q1, -, q2⟩
    · exact zm_AF hP (Or.inr rfl) q2 ⟨b1, by omega, by show c.length + (W.length + 1) + t0 ≤ t + 1 + 1; omega, by show W.length + 1 ≤ 3 * (o + 1) + 3; omega, by omega, wo6⟩ L N
    · cases q1
    · exact zm_AF hP (Or.inr rfl) q2 ⟨b1, by omega, by show c.length + (W.length + 1) + t0 ≤ 501; omega, by show W.length + 1 ≤ 3 * (o + 1) + 3; omega, by omega, wo6⟩ L N
