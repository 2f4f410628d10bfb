/-! ===== the model: all tokens ===== -/
def zt_M1 (T : Nat → Nat) (n : Nat) (I : zI) (J : zJ) (j : Nat) : Prop := I 151 j = nI (zt_mk (zt_K T n j)) ∧ I 152 j = nI (zt_a T n j) ∧ I 153 j = nI (if zt_a T n j < n then zt_v T n (zt_a T n j) else 0) ∧ J 154 j = lN (if zt_a T n j < n then zt_mn T n (zt_a T n j) else 0)
theorem zt_M1_tr {T : Nat → Nat} {n : Nat} {I2 I : zI} {J2 J : zJ} {j : Nat} (h : zt_M1 T n I J j) (h1 : I2 151 j = I 151 j) (h2 : I2 152 j = I 152 j) (h3 : I2 153 j = I 153 j) (h4 : J2 154 j = J 154 j) : zt_M1 T n I2 J2 j := by
  unfold zt_M1
  rw [h1, h2, h3, h4]
  exact h
def zt_fM (I2 I : zI) (J2 J : zJ) : Prop := (∀ x, x ≠ 148 → x ≠ 151 → x ≠ 152 → x ≠ 153 → I2 x = I x) ∧ (∀ y, y ≠ 10 → I2 148 y = I 148 y) ∧ ∀ x, x ≠ 154 → J2 x = J x
theorem zt_fM_o {m : Nat} {I3 I2 I : zI} {J3 J2 J : zJ} {k w v : Int32} {nm : Int64} (h : zt_oM m I3 I2 J3 J2 k w v nm) (h2 : zt_fM I2 I J2 J) : zt_fM I3 I J3 J := ⟨fun x a1 a2 a3 a4 => (h.1 x a1 a2 a3 a4).trans (h2.1 x a1 a2 a3 a4), fun y hy => (h.2.1 y hy).trans (h2.2.1 y hy), fun x hx => (h.2.2.2.2.2.2.2.1 x hx).trans (h2.2.2 x hx)⟩
theorem zt_cut {sw : Bool} {I : zI} {J : zJ} {T : Nat → Nat} {n : Nat} (h : zt_TM I T n) (hJ : zt_KY J) : ∃ I2 J2, f_X11_cut 148 I (zE_R sw) J = some (I2, J2) ∧ zt_fM I2 I J2 J ∧ ∀ j, j ≤ 500 → (∀ i, i < j → zt_K T n i ≠ 0) → zt_M1 T n I2 J2 j := by
  have hn := h.1
  obtain ⟨I1, e1⟩ : ∃ I1, I1 = zw_u I 148 10 0 := ⟨_, rfl⟩
  have f1 : zt_fM I1 I J J := ⟨fun x a1 _ _ _ => by rw [e1, zw_u_off _ _ _ a1], fun y hy => by rw [e1, zE_u2 _ _ (by omega)], fun _ _ => rfl⟩
  have z1 : I1 148 10 = nI 0 := by rw [e1, zE_u1]; rfl
  have go := zE_loop (step := s_X11_cut_7 148 (zE_R sw)) (fun μ z => ∃ p I' J' m, z = (nI p, I', J') ∧ μ = n - p ∧ p ≤ n ∧ m ≤ 501 ∧ I' 148 10 = nI m ∧ zt_fM I' I J' J ∧ (∀ j, j < m → zt_M1 T n I' J' j) ∧ zt_r zt_B T n p = zt_a T n m) (fun r => (∃ I' J', r = .inl (I', J') ∧ zt_fM I' I J' J ∧ ∀ j, j < 501 → zt_M1 T n I' J' j) ∨ ∃ I' J' m, r = .inr (I', J') ∧ m ≤ 500 ∧ I' 148 10 = nI m ∧ zt_fM I' I J' J ∧ (∀ j, j < m → zt_M1 T n I' J' j) ∧ zt_a T n m = n) ?_ 1000000 n (0, I1, J) (by omega) ⟨0, I1, J, 0, rfl, by omega, by omega, by omega, z1, f1, fun j hj => by omega, rfl⟩
  · obtain ⟨r, q1, q2⟩ := go
    unfold f_X11_cut
    rw [show zw_gc 148 11 = true from zr_M1g.1, zw_g_t, zw_let_e, ← e1, q1, Option.bind_some]
    rcases q2 with ⟨I', J', rfl, k1, k2⟩ | ⟨I', J', m, rfl, hm, k0, k1, k2, k3⟩
    · exact ⟨I', J', rfl, k1, fun j hj _ => k2 j (by omega)⟩
    · have e4 : I' 148 4 = nI n := (k1.2.1 4 (by decide)).trans h.2.1
      obtain ⟨I3, J3, t1, t2⟩ := zt_token (sw := sw) (J := J') k0 (by omega) 0 (nI n) 0 0
      dsimp only
      rw [e4, t1, Option.bind_some]
      refine ⟨I3, J3, rfl, zt_fM_o t2 k1, fun j hj hg => ?_⟩
      obtain ⟨o1, o2, o3, o4, o5, o6, o7, o8, o9, o10⟩ := t2
      have Km : zt_K T n m = 0 := by unfold zt_K; rw [k3, if_neg (Nat.lt_irrefl n)]
      rcases Nat.lt_trichotomy j m with c | c | c
      · exact zt_M1_tr (k2 j c) (o4 j (by omega)).1 (o4 j (by omega)).2.1 (o4 j (by omega)).2.2 (o9 j (by omega))
      · subst c
        refine ⟨by rw [o5, Km]; rfl, by rw [o6, k3], ?_, ?_⟩
        · rw [o7, k3, if_neg (Nat.lt_irrefl n)]; rfl
        · rw [o10, k3, if_neg (Nat.lt_irrefl n)]; rfl
      · exact absurd Km (hg m c)
  · rintro μ z ⟨p, I', J', m, rfl, rfl, hp, hm, k0, k1, k2, k3⟩
    have h' : zt_TM I' T n := zt_TM_tr h (k1.2.1 4 (by decide)) (k1.1 150 (by decide) (by decide) (by decide) (by decide))
    have hJ' : zt_KY J' := fun k hk => by rw [k1.2.2 155 (by decide)]; exact hJ k hk
    by_cases c5 : m = 501
    · subst c5
      refine Or.inr ⟨.inl (I', J'), ?_, Or.inl ⟨I', J', rfl, k1, k2⟩⟩
      unfold s_X11_cut_7
      dsimp only
      rw [show zw_gc 148 11 = true from zr_M1g.1, zw_g_t, if_pos (show (500 : Int32) < I' 148 10 by rw [k0]; decide)]
    · have m5 : ¬ (500 : Int32) < nI m := nI_nlt (a := 500) (by omega) (by decide)
      by_cases c : p < n
      · have ta := (h'.2.2 p c).2
        cases hB : zt_B (T p)
        · have ea : zt_a T n m = p := by
            rw [← k3, zt_r_end (fun r => by rw [hB] at r; exact absurd r.2 (by decide))]
          obtain ⟨I2, J2, t1, t2⟩ := zt_cutTok (sw := sw) h' hJ' c hB k0 (by omega)
          have eb := zt_e_b (T := T) c
          refine Or.inl ⟨_, n - zt_e T n p, t1, by omega, zt_e T n p, I2, J2, m + 1, rfl, rfl, eb.2, by omega, t2.2.2.1, zt_fM_o t2 k1, fun j hj => ?_, ?_⟩
          · obtain ⟨o1, o2, o3, o4, o5, o6, o7, o8, o9, o10⟩ := t2
            by_cases e : j = m
            · subst e
              unfold zt_M1 zt_K
              rw [ea, if_pos c, if_pos c, if_pos c]
              exact ⟨o5, o6, o7, o10⟩
            · exact zt_M1_tr (k2 j (by omega)) (o4 j e).1 (o4 j e).2.1 (o4 j e).2.2 (o9 j e)
          · show _ = (if zt_a T n m < n then zt_r zt_B T n (zt_e T n (zt_a T n m)) else zt_a T n m)
            rw [ea, if_pos c]
        · refine Or.inl ⟨(nI (p + 1), I', J'), n - (p + 1), ?_, by omega, p + 1, I', J', m, rfl, rfl, by omega, hm, k0, k1, k2, by rw [← k3, zt_r_go c hB]⟩
          have j67 : j_X11_cut_67_7 148 (nI p) I' (zE_R sw) J' = some (.inl (nI (p + 1), I', J')) := by
            unfold j_X11_cut_67_7 j_X11_cut_352_7
            rw [zw_let_e, nI_1]
          unfold s_X11_cut_7
          dsimp only
          rw [show zw_gc 148 11 = true from zr_M1g.1, zw_g_t, if_neg (show ¬ (500 : Int32) < I' 148 10 by rw [k0]; exact m5), zt_byM (sw := sw) h' (show p < 2 ^ 31 by omega), if_pos c, Option.bind_some, if_pos (show nI p < I' 148 4 by rw [h'.2.1]; exact nI_lt c (by omega))]
          rcases (zt_bl (T p) ta).mp hB with q | q | q | q
          · rw [if_pos q, j67]
          · rw [if_neg (fun r => absurd (r.symm.trans q) (by decide)), if_pos q, j67]
          · rw [if_neg (fun r => absurd (r.symm.trans q) (by decide)), if_neg (fun r => absurd (r.symm.trans q) (by decide)), if_pos q, j67]
          · rw [if_neg (fun r => absurd (r.symm.trans q) (by decide)), if_neg (fun r => absurd (r.symm.trans q) (by decide)), if_neg (fun r => absurd (r.symm.trans q) (by decide)), if_neg (fun r => r q), j67]
      · have pn : p = n := by omega
        subst pn
        refine Or.inr ⟨.inr (I', J'), ?_, Or.inr ⟨I', J', m, rfl, by omega, k0, k1, k2, ?_⟩⟩
        · unfold s_X11_cut_7
          dsimp only
          rw [show zw_gc 148 11 = true from zr_M1g.1, zw_g_t, if_neg (show ¬ (500 : Int32) < I' 148 10 by rw [k0]; exact m5), zt_byM (sw := sw) h' (show p < 2 ^ 31 by omega), if_neg c, Option.bind_some, if_neg (show ¬ nI p < I' 148 4 by rw [h'.2.1]; exact nI_nlt (Nat.le_refl p) (by omega))]
        · rw [← k3, zt_r_end (fun r => c r.1)]
