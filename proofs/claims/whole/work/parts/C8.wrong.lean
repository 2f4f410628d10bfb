/-! ===== later faults in the model: the least place, there the least number ===== -/
def zn_w (q : Nat × Nat) (f p : Nat) : Nat × Nat := if q.1 = 0 then (f, p) else if q.2 < p then q else if ¬ p = q.2 then (f, p) else if f < q.1 then (f, p) else q
/-- the model has only noted later faults -/
def zn_L (I0 I : zI) (q : Nat × Nat) : Prop := (∀ a, a ≠ 148 → I a = I0 a) ∧ I 148 15 = nI q.1 ∧ I 148 16 = nI q.2 ∧ ∀ y, y ≠ 15 → y ≠ 16 → I 148 y = I0 148 y
theorem zn_w_b {q : Nat × Nat} {f p : Nat} (h1 : q.1 ≤ 9) (h2 : q.2 ≤ 2000) (hf : f ≤ 9) (hp : p ≤ 2000) : (zn_w q f p).1 ≤ 9 ∧ (zn_w q f p).2 ≤ 2000 := by
  unfold zn_w
  split
  · exact ⟨hf, hp⟩
  · split
    · exact ⟨h1, h2⟩
    · split
      · exact ⟨hf, hp⟩
      · split
        · exact ⟨hf, hp⟩
        · exact ⟨h1, h2⟩
theorem zn_w_w (q : Nat × Nat) {f p : Nat} (hf : f ≠ 0) : zn_w (zn_w q f p) f p = zn_w q f p := by
  have own : zn_w (f, p) f p = (f, p) := by
    unfold zn_w
    dsimp only
    rw [if_neg hf, if_neg (Nat.lt_irrefl _), if_neg (fun r => r rfl), if_neg (Nat.lt_irrefl _)]
  by_cases c1 : q.1 = 0
  · have e : zn_w q f p = (f, p) := by unfold zn_w; rw [if_pos c1]
    rw [e, own]
  · by_cases c2 : q.2 < p
    · have e : zn_w q f p = q := by unfold zn_w; rw [if_neg c1, if_pos c2]
      rw [e, e]
    · by_cases c3 : p = q.2
      · by_cases c4 : f < q.1
        · have e : zn_w q f p = (f, p) := by unfold zn_w; rw [if_neg c1, if_neg c2, if_neg (fun r => r c3), if_pos c4]
          rw [e, own]
        · have e : zn_w q f p = q := by unfold zn_w; rw [if_neg c1, if_neg c2, if_neg (fun r => r c3), if_neg c4]
          rw [e, e]
      · have e : zn_w q f p = (f, p) := by unfold zn_w; rw [if_neg c1, if_neg c2, if_pos c3]
        rw [e, own]
theorem zn_wrong {sw : Bool} {T : Nat → Nat} {n t f : Nat} {I0 I : zI} {J : zJ} {q : Nat × Nat} (hY : zp_Y T n I0 J) (h : zn_L I0 I q) (h13 : I0 148 13 = 0) (ht : t ≤ 500) (hg : zt_go T n t) (h1 : q.1 ≤ 9) (h2 : q.2 ≤ 2000) (hf : f ≤ 9) (hp : zt_a T n t ≤ 2000) : ∃ I2, f_X11_wrong 148 (nI f) (nI t) I (zE_R sw) = some I2 ∧ zn_L I0 I2 (zn_w q f (zt_a T n t)) := by
  obtain ⟨a1, a2, a3, a4⟩ := id h
  obtain ⟨-, c2, -⟩ := hY.2.2 t ht hg
  have c2 : I 152 t = nI (zt_a T n t) := by rw [a1 152 (by decide)]; exact c2
  have k13 : I 148 13 = 0 := (a4 13 (by decide) (by decide)).trans h13
  have put : j_X11_wrong_46 148 (nI f) (nI (zt_a T n t)) I (zE_R sw) = some (zw_u (zw_u I 148 15 (nI f)) 148 16 (nI (zt_a T n t))) ∧ zn_L I0 (zw_u (zw_u I 148 15 (nI f)) 148 16 (nI (zt_a T n t))) (f, zt_a T n t) := by
    refine ⟨?_, fun a ha => by rw [zw_u_off _ _ _ ha, zw_u_off _ _ _ ha]; exact a1 a ha, by rw [zE_u2 _ _ (by omega), zE_u1], zE_u1 _ _ _ _, fun y b1 b2 => by rw [zE_u2 _ _ (by omega), zE_u2 _ _ (by omega)]; exact a4 y b1 b2⟩
    unfold j_X11_wrong_46
    rw [zp_g148.1, zw_g_t, zw_let_e, zw_let_e]
  have hd : f_X11_wrong 148 (nI f) (nI t) I (zE_R sw) = if nI q.1 = 0 then j_X11_wrong_46 148 (nI f) (nI (zt_a T n t)) I (zE_R sw) else if nI q.2 < nI (zt_a T n t) then some I else if ¬ nI (zt_a T n t) = nI q.2 then j_X11_wrong_46 148 (nI f) (nI (zt_a T n t)) I (zE_R sw) else if nI f < nI q.1 then j_X11_wrong_46 148 (nI f) (nI (zt_a T n t)) I (zE_R sw) else some I := by
    unfold f_X11_wrong
    simp only [zE_gM, zE_rM sw, zE_sM, zw_g_t, zw_let_e, zE_in (show t < 503 by omega) (by decide), zE_cl (show t < 2 ^ 31 by omega), c2, k13, a2, a3]
    rw [if_neg (show ¬ (0 : Int32) < 0 by decide)]
  rw [hd]
  unfold zn_w
  by_cases c1 : q.1 = 0
  · rw [if_pos (show nI q.1 = 0 by rw [c1]; rfl), if_pos c1]
    exact ⟨_, put.1, put.2⟩
  · rw [if_neg (show ¬ nI q.1 = 0 from zr_ne (b := 0) c1 (by omega) (by decide)), if_neg c1]
    by_cases c3 : q.2 < zt_a T n t
    · rw [if_pos (nI_lt c3 (by omega)), if_pos c3]
      exact ⟨I, rfl, h⟩
    · rw [if_neg (nI_nlt (by omega) (by omega)), if_neg c3]
      by_cases c4 : zt_a T n t = q.2
      · rw [if_neg (show ¬ ¬ nI (zt_a T n t) = nI q.2 from fun r => r (by rw [c4])), if_neg (show ¬ ¬ zt_a T n t = q.2 from fun r => r c4)]
        by_cases c5 : f < q.1
        · rw [if_pos (nI_lt c5 (by omega)), if_pos c5]
          exact ⟨_, put.1, put.2⟩
        · rw [if_neg (nI_nlt (by omega) (by omega)), if_neg c5]
          exact ⟨I, rfl, h⟩
      · rw [if_pos (zr_ne c4 (by omega) (by omega)), if_pos c4]
        exact ⟨_, put.1, put.2⟩
