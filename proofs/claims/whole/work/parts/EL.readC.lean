/-! ===== read, in the class ===== -/
def zx_ans (T : Nat → Nat) (n : Nat) (ω : zx_O) : Int32 × Int32 := match ω with
  | .inl x => (nI x.2.2.2.2.1, zx_pl x.2.2.2.2)
  | .inr y => (nI y.1, nI (zt_a T n y.2))
def zX_hs (b : Bool) (o : Nat) : Bool := decide (zE_h b ≤ o ∧ o ≤ zE_h b + 56)
theorem zX_W (b : Bool) : zE_W.all (fun q => !zX_hs b q.1 || zX_hs b q.2) = true := by cases b <;> decide +kernel
theorem zX_W0 : zE_W.all (fun q => decide (q.1 ≠ 0)) = true := by decide +kernel
def zX_u (b : Bool) (o : Nat) : Prop := o = 0 ∨ o = 7 ∨ zX_hs b o = true
theorem zX_U (sw : Bool) : ∀ o j, zX_u (!sw) o → zX_u (!sw) (zE_R sw o j) := by
  intro o j ho
  have h7 : ∀ j, zX_u (!sw) (zE_R sw 7 j) := by
    intro j
    by_cases c : j = 2
    · subst c
      rw [(zE_rh sw).2]
      right; right
      unfold zX_hs
      exact decide_eq_true ⟨Nat.le_refl _, by omega⟩
    · left
      unfold zE_R
      rw [if_neg (by omega), if_neg (by omega)]
      exact zE_s7 j c
  rcases ho with rfl | rfl | ho
  · rcases zE_RW sw 0 j with h | h
    · left; exact h
    · have := List.all_eq_true.mp zX_W0 _ h
      exact absurd rfl (of_decide_eq_true this)
  · exact h7 j
  · rcases zE_RW sw o j with h | h
    · left; exact h
    · have h3 := List.all_eq_true.mp (zX_W (!sw)) _ h
      dsimp only at h3
      rw [ho] at h3
      right; right
      simpa using h3
/-- references change places -/
theorem zX_sw (sw : Bool) : zw_u (zw_u (zE_R sw) 7 2 (zE_h sw)) 1 2 (zE_h (!sw)) = zE_R (!sw) := by
  funext o j
  unfold zw_u
  by_cases c1 : o = 1 ∧ j = 2
  · rw [if_pos c1, c1.1, c1.2]
    exact (zE_rh (!sw)).1.symm
  · rw [if_neg c1]
    by_cases c2 : o = 7 ∧ j = 2
    · rw [if_pos c2, c2.1, c2.2, (zE_rh (!sw)).2, Bool.not_not]
    · rw [if_neg c2]
      unfold zE_R
      rw [if_neg c1, if_neg c2, if_neg c1, if_neg c2]
/-- what a text that is refused leaves alone in the class -/
def zX_oC (b : Bool) (I2 I : zI) (J2 J : zJ) : Prop := (∀ a, a ≠ 0 → a ≠ 2 → a ≠ 4 → a ≠ 5 → a ≠ 7 → ¬ (zE_h b ≤ a ∧ a ≤ zE_h b + 56) → I2 a = I a) ∧ I2 2 1 = 0 ∧ ∀ a, a ≠ 0 → a ≠ 6 → ¬ (zE_h b ≤ a ∧ a ≤ zE_h b + 56) → a ≠ 7 → J2 a = J a
theorem zX_readC {sw : Bool} {I : zI} {J : zJ} {T : Nat → Nat} {n : Nat} (hT : zt_TC I T n) : ∃ I1 J1 sw1, f_X10_read 1 I (zE_R sw) J = some ((zx_ans T n (zx_text T n 501 0 zx_s0)).1, I1, zE_R sw1, J1) ∧ I1 7 1 = (zx_ans T n (zx_text T n 501 0 zx_s0)).2 ∧ ((sw1 = sw ∧ (∀ x, zx_text T n 501 0 zx_s0 = .inl x → x.2.2.2.2.1 ≠ 0) ∧ zX_oC (!sw) I1 I J1 J) ∨ (sw1 = (!sw) ∧ ∃ x I0, zx_text T n 501 0 zx_s0 = .inl x ∧ x.2.2.2.2.1 = 0 ∧ zX_oC (!sw) I0 I J1 J ∧ zq_HC (!sw) I1 x.2.1 ∧ zr_QC (!sw) I1 x.2.2.1 ∧ (∀ a, a ≠ 1 → a ≠ 141 → a ≠ 142 → a ≠ 147 → I1 a = I0 a) ∧ I1 1 4 = 0 ∧ I1 1 6 = 0 ∧ (∀ y, y ≠ 4 → y ≠ 6 → I1 1 y = I0 1 y) ∧ I1 142 0 = 0 ∧ (∀ j, j < 7 → I1 141 j = -1) ∧ ∀ j, j < 96 → I1 147 j = -1)) := by
  obtain ⟨b, eb⟩ : ∃ b, b = !sw := ⟨_, rfl⟩
  have hr : zE_R sw 7 2 = zE_h b := by rw [eb]; exact (zE_rh sw).2
  have hb := zE_hb b
  obtain ⟨K, J1, s1, s2, s3, s4⟩ := zt_scan (sw := sw) (J := J) hT
  have hX : zp_X T n K J1 := ⟨hT.1, fun j hj => (hT.2.2 j hj).2, s4⟩
  have hT2 : zt_TC K T n := zt_TC_tr hT (s2 2 (by decide) (by decide)) (s2 3 (by decide) (by decide))
  obtain ⟨L, J2, r1, r2⟩ := zx_readC (sw := sw) hr hX hT2
  have fr := fr_X3_readText (zX_u b) (R := zE_R sw) (by rw [eb]; exact zX_U sw) 7 2 K J1 (Or.inr (Or.inl rfl)) (L, J2) r1
  obtain ⟨f1, f2⟩ := fr
  have f1 : ∀ a, ¬ zX_u b a → L a = K a := f1
  have f2 : ∀ a, ¬ zX_u b a → J2 a = J1 a := f2
  have nu : ∀ a, a ≠ 0 → a ≠ 7 → ¬ (zE_h b ≤ a ∧ a ≤ zE_h b + 56) → ¬ zX_u b a := by
    rintro a a1 a2 a3 (h | h | h)
    · exact a1 h
    · exact a2 h
    · exact a3 (of_decide_eq_true h)
  have g1 : zw_gc 1 10 = true := by simp only [zE_gC]
  have g2 : zw_gc 2 8 = true := by simp only [zE_gC]
  have g7 : zw_gc 7 3 = true := by simp only [zE_gC]
  obtain ⟨L2, eL⟩ : ∃ L2, L2 = zw_u L 2 1 0 := ⟨_, rfl⟩
  have l7 : L2 7 = L 7 := by rw [eL, zw_u_off _ _ _ (by decide)]
  have oC : zX_oC b L2 I J2 J := by
    refine ⟨fun a a0 a1 a2 a3 a4 a5 => ?_, by rw [eL, zE_u1], fun a a0 a1 a2 a3 => ?_⟩
    · rw [eL, zw_u_off _ _ _ a1, f1 a (nu a a0 a4 a5), s2 a a2 a3]
    · rw [f2 a (nu a a0 a3 a2), s3 a a1]
  have hd : f_X10_read 1 I (zE_R sw) J = if ¬ L2 7 0 = 0 then some (L2 7 0, L2, zE_R sw, J2) else (f_X10_forgetAll 1 L2 (zE_R (!sw))).bind fun q12 => (some (q12 7 0, q12, zE_R (!sw), J2)) := by
    have gs := (zE_gH sw).1
    have gb := (zE_gH b).1
    have x1 : f_X3_exchange 7 (zE_h sw) (zE_R sw) = some (zE_h b, zw_u (zE_R sw) 7 2 (zE_h sw)) := by
      unfold f_X3_exchange
      rw [g7, zw_g_t, hr, gb, zw_g_t, gs, zw_g_t, zw_let_e]
    have sww : zw_u (zw_u (zE_R sw) 7 2 (zE_h sw)) 1 2 (zE_h b) = zE_R (!sw) := by rw [eb]; exact zX_sw sw
    unfold f_X10_read
    simp only [g1, g2, g7, zE_rC sw, zw_g_t, zw_let_e, s1, Option.bind_some, r1, ← eL, (zE_rh sw).1, gs, x1, gb, sww, zE_rC (!sw)]
  rw [hd]
  cases hW : zx_text T n 501 0 zx_s0 with
  | inr y =>
    rw [hW] at r2
    obtain ⟨q1, q2⟩ := r2
    have ok := zx_text_ok (T := T) (n := n) 501 0 zx_s0 (zx_P0 T n) (by omega)
    rw [hW] at ok
    have ok : y.1 = 1 ∨ y.1 = 2 := ok
    rw [if_pos (show ¬ L2 7 0 = 0 by rw [l7, q1]; exact nI_ne0 (by omega) (by omega))]
    refine ⟨L2, J2, sw, ?_, by rw [l7]; exact q2, Or.inl ⟨rfl, (fun x hx => by cases hx), by rw [← eb]; exact oC⟩⟩
    rw [l7, q1]
    rfl
  | inl x =>
    rw [hW] at r2
    obtain ⟨q1, q2, q3⟩ := r2
    have ok := zx_text_ok (T := T) (n := n) 501 0 zx_s0 (zx_P0 T n) (by omega)
    rw [hW] at ok
    obtain ⟨ok, -⟩ := ok
    have q9 := zx_q9 ok.2.2.2.2.2.2.2.2.2.1
    by_cases c : x.2.2.2.2.1 = 0
    · rw [if_neg (show ¬ ¬ L2 7 0 = 0 from fun r => r (by rw [l7, q1, c]; rfl))]
      obtain ⟨hc, hq⟩ := q3 c
      obtain ⟨hK, hQ⟩ := ok.2.2.2.2.2.2.2.2.2.2 c
      obtain ⟨A, eA⟩ : ∃ A, A = zw_u (zw_u (zw_u L2 1 4 0) 1 6 0) 142 0 0 := ⟨_, rfl⟩
      have g141 : zw_gc 141 13 = true := by simp only [zE_gC]
      have g147 : zw_gc 147 13 = true := by simp only [zE_gC]
      have s141 : zw_SH 141 = (13, 7) := by simp only [zE_sC]
      have s147 : zw_SH 147 = (13, 96) := by simp only [zE_sC]
      have fo : f_X10_forgetAll 1 L2 (zE_R (!sw)) = some (zq_fl (zq_fl A 141 7 (-1)) 147 96 (-1)) := by
        unfold f_X10_forgetAll
        simp only [zE_gC, zE_rC (!sw), zw_g_t, zw_let_e, ← eA, zq_fill (-1) g141 s141 (by decide), zq_fill (-1) g147 s147 (by decide), Option.bind_some]
      have ff : ∀ a, a ≠ 1 → a ≠ 141 → a ≠ 142 → a ≠ 147 → zq_fl (zq_fl A 141 7 (-1)) 147 96 (-1) a = L2 a := fun a a1 a2 a3 a4 => by rw [zq_fl_o a4, zq_fl_o a2, eA, zw_u_off _ _ _ a3, zw_u_off _ _ _ a1, zw_u_off _ _ _ a1]
      rw [fo, Option.bind_some]
      have f7 : zq_fl (zq_fl A 141 7 (-1)) 147 96 (-1) 7 = L 7 := by rw [ff 7 (by decide) (by decide) (by decide) (by decide)]; exact l7
      have fh : ∀ a, 8 ≤ a → a ≤ 121 → zq_fl (zq_fl A 141 7 (-1)) 147 96 (-1) a = L a := fun a a1 a2 => by rw [ff a (by omega) (by omega) (by omega) (by omega), eL, zw_u_off _ _ _ (by omega)]
      refine ⟨_, J2, !sw, ?_, by rw [f7]; exact q2, Or.inr ⟨rfl, x, L2, rfl, c, by rw [← eb]; exact oC, ?_, ?_, ff, ?_, ?_, fun y y1 y2 => ?_, ?_, fun j hj => ?_, fun j hj => ?_⟩⟩
      · rw [f7, q1]
        rfl
      · rw [← eb]
        exact zq_HC_tr hK (zx_HC_full hK hc) fh
      · rw [← eb]
        exact zr_QC_tr hQ hq fh
      · rw [zq_fl_o (by decide), zq_fl_o (by decide), eA, zw_u_off _ _ _ (by decide), zE_u2 _ _ (by omega), zE_u1]
      · rw [zq_fl_o (by decide), zq_fl_o (by decide), eA, zw_u_off _ _ _ (by decide), zE_u1]
      · rw [zq_fl_o (by decide), zq_fl_o (by decide), eA, zw_u_off _ _ _ (by decide), zE_u2 _ _ (by omega), zE_u2 _ _ (by omega)]
      · rw [zq_fl_o (by decide), zq_fl_o (by decide), eA, zE_u1]
      · rw [zq_fl_o (by decide), zq_fl_a hj]
      · rw [zq_fl_a hj]
    · rw [if_pos (show ¬ L2 7 0 = 0 by rw [l7, q1]; exact zr_ne (b := 0) c (by omega) (by decide))]
      refine ⟨L2, J2, sw, ?_, by rw [l7]; exact q2, Or.inl ⟨rfl, (fun z hz => by cases hz; exact c), by rw [← eb]; exact oC⟩⟩
      rw [l7, q1]
      rfl
