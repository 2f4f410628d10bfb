/-! ===== names: does one occur twice? ===== -/
theorem zn_look {sw b : Bool} {I : zI} {J : zJ} {k : Nat} {v : Int64} (h11 : I (zE_h b) 11 = nI k) (hk : k ≤ 30) : ∀ (d s N : Nat), s + d = k → d + 1 ≤ N → (∀ i, i < s → J (zE_h b + 6) i ≠ v) → (zw_it (s_X1_addName_2 (zE_h b) v I (zE_R sw) J) N (nI s) = some (.inl ()) ∧ ∀ i, i < k → J (zE_h b + 6) i ≠ v) ∨ (zw_it (s_X1_addName_2 (zE_h b) v I (zE_R sw) J) N (nI s) = some (.inr ()) ∧ ∃ i, i < k ∧ J (zE_h b + 6) i = v)
  | d, s, 0, _, hN, _ => absurd hN (by omega)
  | 0, s, N + 1, hs, _, hn => by
    have es : s = k := hs
    subst es
    refine Or.inl ⟨zE_it0 N ?_, hn⟩
    unfold s_X1_addName_2
    rw [(zE_gH b).1, zw_g_t, h11, if_pos (Int32.le_refl _)]
  | d + 1, s, N + 1, hs, hN, hn => by
    have r6 := (zE_rH sw b).2.2.2.2.2.1
    have g6 := (zE_gH b).2.2.2.2.2.2.1
    have s6 := (zE_sH b).2.2.2.2.2.2.1
    have st : s_X1_addName_2 (zE_h b) v I (zE_R sw) J (nI s) = if ¬ lg_cmp (J (zE_h b + 6) s) v = 0 then some (.inl (nI (s + 1))) else some (.inr (.inr ())) := by
      unfold s_X1_addName_2
      rw [(zE_gH b).1, zw_g_t, h11, if_neg (nI_ge (b := k) (show s < k by omega) (by omega)), r6, g6, zw_g_t, s6, zE_in (show s < 30 by omega) (by decide), zw_g_t, zE_cl (show s < 2 ^ 31 by omega), zw_let_e, nI_1]
    by_cases c : J (zE_h b + 6) s = v
    · rw [if_neg (fun q => q ((lg_cmp_eq _ _).mpr c))] at st
      exact Or.inr ⟨zE_it0 N st, s, by omega, c⟩
    · rw [if_pos (fun q => c ((lg_cmp_eq _ _).mp q))] at st
      rw [zE_it1 N st]
      exact zn_look h11 hk d (s + 1) N (by omega) (by omega) (fun i hi => by
        by_cases e : i = s
        · rw [e]; exact c
        · exact hn i (by omega))
/-- the class keeps a name, or says that it is there -/
theorem zn_add {sw b : Bool} {I : zI} {J : zJ} {k : Nat} (v : Int64) (h11 : I (zE_h b) 11 = nI k) (hk : k < 30) : (f_X1_addName (zE_h b) v I (zE_R sw) J = some (1, zw_u I (zE_h b) 11 (nI (k + 1)), zw_u J (zE_h b + 6) k v) ∧ ∀ i, i < k → J (zE_h b + 6) i ≠ v) ∨ (f_X1_addName (zE_h b) v I (zE_R sw) J = some (0, I, J) ∧ ∃ i, i < k ∧ J (zE_h b + 6) i = v) := by
  have r6 := (zE_rH sw b).2.2.2.2.2.1
  have g6 := (zE_gH b).2.2.2.2.2.2.1
  have s6 := (zE_sH b).2.2.2.2.2.2.1
  rcases zn_look (sw := sw) (J := J) (v := v) h11 (by omega) k 0 1000000 (by omega) (by omega) (fun i hi => absurd hi (Nat.not_lt_zero _)) with ⟨q1, q2⟩ | ⟨q1, q2⟩
  · refine Or.inl ⟨?_, q2⟩
    have q1 : zw_it (s_X1_addName_2 (zE_h b) v I (zE_R sw) J) 1000000 0 = some (.inl ()) := q1
    unfold f_X1_addName
    rw [q1, Option.bind_some]
    dsimp only
    rw [(zE_gH b).1, zw_g_t, h11, if_neg (show ¬ (30 : Int32) ≤ nI k from nI_ge (b := 30) hk (by decide)), r6, g6, zw_g_t, s6, zE_in (show k < 30 by omega) (by decide), zw_g_t, zE_cl (show k < 2 ^ 31 by omega), zw_let_e, zw_let_e, nI_1]
  · refine Or.inr ⟨?_, q2⟩
    have q1 : zw_it (s_X1_addName_2 (zE_h b) v I (zE_R sw) J) 1000000 0 = some (.inr ()) := q1
    unfold f_X1_addName
    rw [q1, Option.bind_some]
