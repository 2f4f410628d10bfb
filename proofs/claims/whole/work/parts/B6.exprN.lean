/-! ===== the model: behind an operand; products, sums ===== -/
theorem zm_kkr {R : zR} {N : Nat} {r : zI ⊕ (zI ⊕ zI)} : zm_kk R N (some (.inr r)) = some r := rfl
theorem zm_kks {R : zR} {N : Nat} {s : Int32 × zI} : zm_kk R N (some (.inl s)) = zw_it (s_X11_expression_12 148 0 R) N s := rfl
/-- neither a sign nor a parenthesis to close -/
theorem zm_end {sw : Bool} {T : Nat → Nat} {n : Nat} {I0 I : zI} {J : zJ} {m0 t o : Nat} {W : List Nat} {c : List zr_C} {Post : zI ⊕ (zI ⊕ zI) → Prop} (hY : zp_Y T n I0 J) (h : zm_G T n I0 I m0 t o W c (0, 0)) (ht : t ≤ 500) (hg : zt_go T n t) (hk : ¬ (8 ≤ zt_K T n t ∧ zt_K T n t ≤ 11)) (hc : zt_K T n t ≠ 13 ∨ o = 0) (hP : Post (.inr (.inr I))) : zm_B (zE_R sw) Post t I := by
  have hY2 := zm_G_Y hY h
  have h13 : I 148 13 = 0 := h.2.1
  have is : ∀ (kc : Nat) (kv : Int32), kc ≤ 35 → kv = nI (zt_mk kc) → zt_K T n t ≠ kc → f_X11_is 148 kv I (zE_R sw) = some 0 := by
    intro kc kv h1 h2 h3
    have := zp_is (sw := sw) hY2 ht hg h13 h.2.2.2.1 h1 h2
    rw [decide_eq_false h3] at this
    exact this
  intro M N hM hN
  obtain ⟨M, rfl⟩ : ∃ M', M = M' + 1 := ⟨M - 1, by omega⟩
  refine ⟨_, ?_, hP⟩
  have cl : zw_it (s_X11_expression_96 148 0 (zE_R sw)) (M + 1) I = some I := by
    by_cases k13 : zt_K T n t = 13
    · have o0 : o = 0 := by rcases hc with q | q; exact absurd k13 q; exact q
      refine zE_it0 M ?_
      have i7 := zp_is (sw := sw) (kc := 13) (kv := 7) hY2 ht hg h13 h.2.2.2.1 (by decide) rfl
      rw [decide_eq_true k13] at i7
      unfold s_X11_expression_96
      rw [zp_g148.1, zw_g_t, i7, Option.bind_some, if_neg (show ¬ zr_b true = 0 by decide), if_pos (show I 148 12 ≤ 0 by rw [h.2.2.2.2.1, o0]; decide)]
    · exact zm_noClose (is 13 7 (by decide) rfl k13)
  unfold zm_rB
  rw [cl, Option.bind_some]
  unfold j_X11_expression_145_12 j_X11_expression_186_12
  rw [zp_g148.1, zw_g_t, is 8 8 (by decide) rfl (by omega), Option.bind_some, if_neg (fun r => r rfl), is 9 9 (by decide) rfl (by omega), Option.bind_some, if_neg (fun r => r rfl), is 10 10 (by decide) rfl (by omega), Option.bind_some, if_neg (fun r => r rfl), is 11 15 (by decide) rfl (by omega), Option.bind_some, if_pos rfl, if_neg (fun r => r rfl)]
  rfl
theorem zm_BF {sw : Bool} {T : Nat → Nat} {n : Nat} {I0 I : zI} {m0 t o : Nat} {W : List Nat} {c : List zr_C} {y : Nat × Nat} (h : zm_G T n I0 I m0 t o W c y) (hy : y.1 = 1 ∨ y.1 = 2) (M N : Nat) : zm_rB (zE_R sw) (M + 1) N I = some (.inr (.inr I)) := by
  have h0 := zm_ne h hy
  unfold zm_rB
  rw [zm_noClose (zp_isF h0), Option.bind_some]
  unfold j_X11_expression_145_12 j_X11_expression_186_12
  rw [zp_g148.1, zw_g_t, zp_isF h0, Option.bind_some, if_neg (fun r => r rfl), zp_isF h0, Option.bind_some, if_neg (fun r => r rfl), zp_isF h0, Option.bind_some, if_neg (fun r => r rfl), zp_isF h0, Option.bind_some, if_pos rfl, if_neg (fun r => r rfl)]
  rfl
/-- a sign -/
theorem zm_op {sw : Bool} {T : Nat → Nat} {n : Nat} {I0 I : zI} {J : zJ} {m0 t0 t o : Nat} {A B : List Nat} {c : List zr_C} {Post : zI ⊕ (zI ⊕ zI) → Prop} (s : Bool) (hY : zp_Y T n I0 J) (h : zm_G T n I0 I m0 t o (A ++ B) c (0, 0)) (hb : zm_bd m0 t0 t o (A ++ B) c) (hl : c.length + (A ++ B).length + t0 ≤ t) (hg : zt_go T n t) (hk : (s = true ∧ (zt_K T n t = 10 ∨ zt_K T n t = 11)) ∨ (s = false ∧ (zt_K T n t = 8 ∨ zt_K T n t = 9))) (hA : ∀ w, w ∈ A → (w = 8 ∨ w = 9 ∨ w = 10 ∨ w = 15) ∧ ¬ zm_st s w) (hB : ∀ w B2, B = w :: B2 → w ≤ 40 ∧ zm_st s w) (hBl : B.length ≤ 3 * o + 2) (hok : t < 500 → ∀ I', zm_G T n I0 I' m0 (t + 1) o (zt_mk (zt_K T n t) :: B) (c ++ A.map (fun w => (zm_wk w, 0))) (0, 0) → zm_A (zE_R sw) Post (t + 1) I') (hf : ¬ t < 500 → zm_PF T n I0 m0 t0 Post (2, t)) : zm_B (zE_R sw) Post t I := by
  obtain ⟨b1, b2, b3, b4, b5, b6⟩ := id hb
  have hY2 := zm_G_Y hY h
  have h13 : I 148 13 = 0 := h.2.1
  have lab : (A ++ B).length = A.length + B.length := List.length_append
  have is : ∀ (kc : Nat) (kv : Int32), kc ≤ 35 → kv = nI (zt_mk kc) → f_X11_is 148 kv I (zE_R sw) = some (zr_b (decide (zt_K T n t = kc))) := fun kc kv h1 h2 => zp_is (sw := sw) hY2 b2 hg h13 h.2.2.2.1 h1 h2
  obtain ⟨I1, q1, q2⟩ := zm_comesOut (sw := sw) (sv := zr_b s) s A B c rfl h (by omega) (by omega) hA hB
  obtain ⟨cc, ecc⟩ : ∃ cc, cc = c ++ A.map (fun w => (zm_wk w, 0)) := ⟨_, rfl⟩
  have lcc : cc.length = c.length + A.length := by rw [ecc, List.length_append, List.length_map]
  rw [← ecc] at q2 hok
  have hY3 := zm_G_Y hY q2
  have k151 : I1 151 t = nI (zt_mk (zt_K T n t)) := (hY3.2.2 t b2 hg).1
  have e48 : I1 148 48 = nI B.length := q2.2.2.2.2.2.2.1
  have e11 : I1 148 11 = nI t := q2.2.2.2.1
  have hp := zm_push q2 (zt_mk (zt_K T n t))
  -- the sign waits, and on
  have j234 : ∀ (t2 : Nat) (φ2 : Nat × Nat) (I3 : zI), f_X11_goesOn 148 (zw_u (zw_u I1 181 B.length (nI (zt_mk (zt_K T n t)))) 148 48 (nI (B.length + 1))) (zE_R sw) = some I3 → j_X11_expression_234_12 148 0 1 148 (zr_b s) I (zE_R sw) = some (.inl (1, I3)) := by
    intro t2 φ2 I3 h3
    have e482 : zw_u I1 181 B.length (nI (zt_mk (zt_K T n t))) 148 48 = nI B.length := by rw [zw_u_off _ _ _ (by decide)]; exact e48
    unfold j_X11_expression_234_12
    rw [zp_g148.1, zw_g_t, q1, Option.bind_some, zw_g_t]
    simp only [zE_rM sw, zp_g148.2.2.2.2.2.2, zp_g148.2.1, zE_sM, zw_g_t, zw_let_e, e48, e11, zE_in (show t < 503 by omega) (by decide), zE_cl (show t < 2 ^ 31 by omega), zE_in (show B.length < 64 by omega) (by decide), zE_cl (show B.length < 2 ^ 31 by omega), k151, e482, nI_1, h3, Option.bind_some]
  have j145 : j_X11_expression_145_12 148 0 I (zE_R sw) = j_X11_expression_234_12 148 0 1 148 (zr_b s) I (zE_R sw) := by
    have i8 := is 8 8 (by decide) rfl
    have i9 := is 9 9 (by decide) rfl
    have i10 := is 10 10 (by decide) rfl
    have i15 := is 11 15 (by decide) rfl
    have t1 : ¬ zr_b true = 0 := by decide
    have t0 : ¬ ¬ zr_b false = 0 := fun r => r rfl
    unfold j_X11_expression_145_12 j_X11_expression_181_12 j_X11_expression_186_12 j_X11_expression_229_12
    rw [zp_g148.1, zw_g_t]
    rcases hk with ⟨rfl, hk | hk⟩ | ⟨rfl, hk | hk⟩
    · rw [decide_eq_false (by omega)] at i8 i9 i15
      rw [decide_eq_true hk] at i10
      rw [i8, Option.bind_some, if_neg t0, i9, Option.bind_some, if_neg t0, i10, Option.bind_some, if_pos t1, if_pos zE_10, zw_g_t, Option.bind_some, if_pos t1]
      rfl
    · rw [decide_eq_false (by omega)] at i8 i9 i10
      rw [decide_eq_true hk] at i15
      rw [i8, Option.bind_some, if_neg t0, i9, Option.bind_some, if_neg t0, i10, Option.bind_some, if_neg t0, i15, Option.bind_some, if_neg t1, if_pos zE_10, zw_g_t, Option.bind_some, if_neg t0, Option.bind_some, if_neg t1]
      rfl
    · rw [decide_eq_false (by omega)] at i9 i10 i15
      rw [decide_eq_true hk] at i8
      rw [i8, Option.bind_some, if_pos t1, if_pos zE_10, zw_g_t, i10, Option.bind_some, if_neg t0, i15, Option.bind_some, if_pos (show zr_b false = 0 from rfl)]
      rfl
    · rw [decide_eq_false (by omega)] at i8 i10 i15
      rw [decide_eq_true hk] at i9
      rw [i8, Option.bind_some, if_neg t0, i9, Option.bind_some, if_pos t1, if_pos zE_10, zw_g_t, i10, Option.bind_some, if_neg t0, i15, Option.bind_some, if_pos (show zr_b false = 0 from rfl)]
      rfl
  have i7 : f_X11_is 148 7 I (zE_R sw) = some 0 := by
    have := is 13 7 (by decide) rfl
    rw [decide_eq_false (by omega)] at this
    exact this
  intro M N hM hN
  obtain ⟨M, rfl⟩ : ∃ M', M = M' + 1 := ⟨M - 1, by omega⟩
  obtain ⟨N, rfl⟩ : ∃ N', N = N' + 1 := ⟨N - 1, by omega⟩
  unfold zm_rB
  rw [zm_noClose i7, Option.bind_some, j145]
  by_cases ct : t < 500
  · obtain ⟨I3, o1, o2⟩ := zm_on (sw := sw) hp ct
    rw [j234 (t + 1) (0, 0) I3 o1, zm_kks, zm_s12 N (show I3 148 13 = 0 from o2.2.1)]
    exact hok ct I3 o2 1000000 N (by omega) (by omega)
  · have e : t = 500 := by omega
    subst e
    obtain ⟨I3, o1, o2⟩ := zm_fail (sw := sw) hY hp (Nat.le_refl _) hg 2
    rw [j234 500 (2, 500) I3 (zp_onE hp.2.2.2.1 o1), zm_kks, zm_s12F N (zm_ne o2 (Or.inr rfl))]
    have mk1 : zt_mk (zt_K T n 500) = 8 ∨ zt_mk (zt_K T n 500) = 9 ∨ zt_mk (zt_K T n 500) = 10 ∨ zt_mk (zt_K T n 500) = 15 := by
      rcases hk with ⟨-, hk | hk⟩ | ⟨-, hk | hk⟩ <;> rw [hk] <;> decide
    refine ⟨_, rfl, ((hf ct).1 I3 500 o _ cc o2 ⟨b1, Nat.le_refl _, ?_, ?_, b5, ?_⟩).1⟩
    · show cc.length + (B.length + 1) + t0 ≤ 501; omega
    · show B.length + 1 ≤ 3 * o + 3
      omega
    · intro w hw
      rcases List.mem_cons.mp hw with rfl | hw
      · omega
      · exact b6 w (List.mem_append_right _ hw)
/-- a parenthesis closes -/
theorem zm_close {sw : Bool} {T : Nat → Nat} {n : Nat} {I0 I : zI} {J : zJ} {m0 t0 t o : Nat} {A B : List Nat} {c : List zr_C} {Post : zI ⊕ (zI ⊕ zI) → Prop} (hY : zp_Y T n I0 J) (h : zm_G T n I0 I m0 t (o + 1) (A ++ 6 :: B) c (0, 0)) (hb : zm_bd m0 t0 t (o + 1) (A ++ 6 :: B) c) (hl : c.length + (A ++ 6 :: B).length + t0 ≤ t) (hg : zt_go T n t) (hk : zt_K T n t = 13) (hA : ∀ w, w ∈ A → (w = 8 ∨ w = 9 ∨ w = 10 ∨ w = 15)) (hBl : B.length ≤ 3 * o + 3) (hok : t < 500 → ∀ I', zm_G T n I0 I' m0 (t + 1) o B (c ++ A.map (fun w => (zm_wk w, 0))) (0, 0) → zm_B (zE_R sw) Post (t + 1) I') (hf : ¬ t < 500 → zm_PF T n I0 m0 t0 Post (2, t)) : zm_B (zE_R sw) Post t I := by
  obtain ⟨b1, b2, b3, b4, b5, b6⟩ := id hb
  have hY2 := zm_G_Y hY h
  have h13 : I 148 13 = 0 := h.2.1
  have lab : (A ++ 6 :: B).length = A.length + (B.length + 1) := List.length_append
  have i7 := zp_is (sw := sw) (kc := 13) (kv := 7) hY2 b2 hg h13 h.2.2.2.1 (by decide) rfl
  rw [decide_eq_true hk] at i7
  obtain ⟨I1, q1, q2⟩ := zm_comesOut (sw := sw) (sv := 0) false A (6 :: B) c rfl h (by omega) (by omega) (fun w hw => ⟨hA w hw, fun r => by rcases r with r | ⟨r, -⟩; have := hA w hw; omega; cases r⟩) (fun w B2 e => by cases e; exact ⟨by decide, Or.inl rfl⟩)
  obtain ⟨cc, ecc⟩ : ∃ cc, cc = c ++ A.map (fun w => (zm_wk w, 0)) := ⟨_, rfl⟩
  have lcc : cc.length = c.length + A.length := by rw [ecc, List.length_append, List.length_map]
  rw [← ecc] at q2 hok
  have e48 : I1 148 48 = nI (B.length + 1) := q2.2.2.2.2.2.2.1
  have hp := zm_pop q2
  obtain ⟨a1, a2, a3, a4, a5, -⟩ := id hp
  have u : zm_G T n I0 (zw_u (zw_u I1 148 48 (nI B.length)) 148 12 (nI o)) m0 t o B cc (0, 0) := zm_G_u hp (fun a ha => zw_u_off _ _ _ ha) (by rw [zE_u2 _ _ (by omega)]; exact a2) (fun q => absurd rfl q) (by rw [zE_u2 _ _ (by omega)]; exact a4) (zE_u1 _ _ _ _) (zE_u2 _ _ (by omega)) (zE_u2 _ _ (by omega)) (fun y _ q _ _ _ _ => zE_u2 _ _ (by omega))
  have st : ∀ I3, f_X11_goesOn 148 (zw_u (zw_u I1 148 48 (nI B.length)) 148 12 (nI o)) (zE_R sw) = some I3 → s_X11_expression_96 148 0 (zE_R sw) I = some (.inl I3) := by
    intro I3 h3
    unfold s_X11_expression_96
    rw [zp_g148.1, zw_g_t, i7, Option.bind_some, if_neg (show ¬ zr_b true = 0 by decide), if_neg (show ¬ I 148 12 ≤ 0 by rw [h.2.2.2.2.1]; exact nI_nle (by omega) (by omega)), q1, Option.bind_some, e48, nI_pred, zw_let_e, a5, nI_pred, zw_let_e, h3, Option.bind_some]
  intro M N hM hN
  obtain ⟨M, rfl⟩ : ∃ M', M = M' + 2 := ⟨M - 2, by omega⟩
  have go : ∀ I3, f_X11_goesOn 148 (zw_u (zw_u I1 148 48 (nI B.length)) 148 12 (nI o)) (zE_R sw) = some I3 → zm_rB (zE_R sw) (M + 2) N I = zm_rB (zE_R sw) (M + 1) N I3 := by
    intro I3 h3
    unfold zm_rB
    rw [zE_it1 (M + 1) (st I3 h3)]
  by_cases ct : t < 500
  · obtain ⟨I3, o1, o2⟩ := zm_on (sw := sw) u ct
    rw [go I3 o1]
    exact hok ct I3 o2 (M + 1) N (by omega) (by omega)
  · have e : t = 500 := by omega
    subst e
    obtain ⟨I3, o1, o2⟩ := zm_fail (sw := sw) hY u (Nat.le_refl _) hg 2
    rw [go I3 (zp_onE u.2.2.2.1 o1)]
    refine ⟨_, zm_BF o2 (Or.inr rfl) M N, ((hf ct).1 I3 500 o B cc o2 ⟨b1, Nat.le_refl _, by omega, hBl, by omega, fun w hw => b6 w (List.mem_append_right _ (List.mem_cons_of_mem _ hw))⟩).2.2⟩
