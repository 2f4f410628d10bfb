/-! ===== begin, darkens, ray ===== -/
def zq_fl (I : zI) (a L : Nat) (v : Int32) : zI := fun o j => if o = a ∧ j < L then v else I o j
def zq_cp (I : zI) (a b L : Nat) : zI := fun o j => if o = a ∧ j < L then I b j else I o j
theorem zq_fl_a {I : zI} {a L : Nat} {v : Int32} {j : Nat} (h : j < L) : zq_fl I a L v a j = v := if_pos ⟨rfl, h⟩
theorem zq_fl_o {I : zI} {a L : Nat} {v : Int32} {o : Nat} (h : o ≠ a) : zq_fl I a L v o = I o := by
  funext j
  exact if_neg (fun q => h q.1)
theorem zq_fl_0 (I : zI) (a : Nat) (v : Int32) : zq_fl I a 0 v = I := by
  funext o j
  exact if_neg (fun q => absurd q.2 (by omega))
theorem zq_fl_s (I : zI) (a L : Nat) (v : Int32) : zw_u (zq_fl I a L v) a L v = zq_fl I a (L + 1) v := by
  funext o j
  unfold zw_u zq_fl
  by_cases c : o = a ∧ j = L
  · rw [if_pos c, if_pos ⟨c.1, by omega⟩]
  · rw [if_neg c]
    by_cases c2 : o = a ∧ j < L
    · rw [if_pos c2, if_pos ⟨c2.1, by omega⟩]
    · rw [if_neg c2, if_neg (by omega)]
theorem zq_cp_a {I : zI} {a b L j : Nat} (h : j < L) : zq_cp I a b L a j = I b j := if_pos ⟨rfl, h⟩
theorem zq_cp_o {I : zI} {a b L o : Nat} (h : o ≠ a) : zq_cp I a b L o = I o := by
  funext j
  exact if_neg (fun q => h q.1)
theorem zq_cp_0 (I : zI) (a b : Nat) : zq_cp I a b 0 = I := by
  funext o j
  exact if_neg (fun q => absurd q.2 (by omega))
theorem zq_cp_s (I : zI) (a b L : Nat) (h : b ≠ a) : zw_u (zq_cp I a b L) a L (zq_cp I a b L b L) = zq_cp I a b (L + 1) := by
  rw [zq_cp_o h]
  funext o j
  unfold zw_u zq_cp
  by_cases c : o = a ∧ j = L
  · rw [if_pos c, if_pos ⟨c.1, by omega⟩, c.2]
  · rw [if_neg c]
    by_cases c2 : o = a ∧ j < L
    · rw [if_pos c2, if_pos ⟨c2.1, by omega⟩]
    · rw [if_neg c2, if_neg (by omega)]
theorem zq_fill {I : zI} {a L t : Nat} (v : Int32) (h1 : zw_gc a 13 = true) (h2 : zw_SH a = (t, L)) (hL : L < 1000) : f_J7_fill_53178 a v I = some (zq_fl I a L v) := by
  unfold f_J7_fill_53178
  rw [h1, zw_g_t, zw_let_e, h2]
  have h := zE_forE (step := s_J7_fill_53178_5 a v (Int32.ofNat L)) (fun i => (nI i, zq_fl I a i v)) (zq_fl I a L v) L (fun i hi => by
    unfold s_J7_fill_53178_5
    simp only [h1, h2, zw_g_t, zw_let_e, zE_in (k := i) (n := L) hi (by omega), zE_cl (k := i) (by omega), nI_1, zq_fl_s]
    exact if_neg (nI_ge hi (by omega))) (by
    unfold s_J7_fill_53178_5
    exact if_pos (nI_le (Nat.le_refl L) (by omega))) (by omega)
  rw [zq_fl_0] at h
  rw [show ((0 : Int32), I) = (nI 0, I) from rfl, h]
  rfl
/-- a stuff's object and its two rows behind it -/
def zq_sf (sw : Bool) (o : Nat) : Prop := zw_gc o 7 = true ∧ zE_R sw o 0 = o + 1 ∧ zE_R sw o 1 = o + 2 ∧ zw_gc (o + 1) 13 = true ∧ zw_gc (o + 2) 13 = true ∧ zw_SH (o + 1) = (13, 4) ∧ zw_SH (o + 2) = (13, 4)
theorem zq_sfk (sw b : Bool) (k : Nat) (hk : k < 4) : zq_sf sw (zE_h b + (9 + 3 * k)) := by
  have e1 : zE_h b + (9 + 3 * k) + 1 = zE_h b + (10 + 3 * k) := by omega
  have e2 : zE_h b + (9 + 3 * k) + 2 = zE_h b + (11 + 3 * k) := by omega
  unfold zq_sf
  rw [e1, e2]
  exact ⟨(zE_sHst b k hk).2, zE_rHs0 sw b k hk, zE_rHs1 sw b k hk, (zE_sHs0 b k hk).2, (zE_sHs1 b k hk).2, (zE_sHs0 b k hk).1, (zE_sHs1 b k hk).1⟩
def zq_z : Nat → Int32 := fun _ => 0
theorem zq_beginC {sw : Bool} {I : zI} {o st c : Nat} (hli : zq_li sw o) (hsf : zq_sf sw st) (hso : st + 2 < o) (hc : c < 4) (tr : Nat → Int32) : ∃ I2, f_X2_begin o st (nI c) I (zE_R sw) = some I2 ∧ zq_LC I I2 o (I o 8) (I o 9) (I o 10) (I o 11) 0 tr zq_z (I (st + 1) c) (I (st + 2) c) (I st 2) := by
  obtain ⟨g1, g2, g3, g4, g5, g6, g7, g8, g9, g10⟩ := hli
  obtain ⟨q1, q2, q3, q4, q5, q6, q7⟩ := hsf
  unfold f_X2_begin
  simp only [g1, g3, g4, g6, g7, q1, q2, q3, q4, q5, q6, q7, zw_g_t, zw_let_e, zq_fill 0 g6 g9 (by decide), zq_fill 0 g7 g10 (by decide), Option.bind_some, zE_in (k := c) (n := 4) hc (by decide), zE_cl (k := c) (by omega)]
  refine ⟨_, rfl, fun a ha => ?_, ?_, fun j hj => by omega, fun j hj => ?_, ?_, fun j hj => ?_, ?_, ?_, ?_, ?_, ?_, ?_, ?_⟩
  · rw [zw_u_off _ _ _ (by omega), zw_u_off _ _ _ (by omega), zw_u_off _ _ _ (by omega), zw_u_off _ _ _ (by omega), zw_u_off _ _ _ (by omega), zq_fl_o (by omega), zq_fl_o (by omega)]
  · rw [zE_u2 _ _ (by omega), zE_u2 _ _ (by omega), zE_u2 _ _ (by omega), zE_u2 _ _ (by omega), zE_u1]
    rfl
  · rw [zw_u_off _ _ _ (by omega), zw_u_off _ _ _ (by omega), zw_u_off _ _ _ (by omega), zw_u_off _ _ _ (by omega), zw_u_off _ _ _ (by omega), zq_fl_o (by omega), zq_fl_a hj]
    rfl
  · rw [zE_u2 _ _ (by omega), zE_u2 _ _ (by omega), zE_u2 _ _ (by omega), zE_u1]
    rfl
  · rw [zw_u_off _ _ _ (by omega), zw_u_off _ _ _ (by omega), zw_u_off _ _ _ (by omega), zw_u_off _ _ _ (by omega), zw_u_off _ _ _ (by omega), zq_fl_a hj]
    rfl
  · rw [zE_u2 _ _ (by omega), zE_u2 _ _ (by omega), zE_u1, zE_u2 _ _ (by omega), zE_u2 _ _ (by omega), zq_fl_o (by omega), zq_fl_o (by omega)]
  · rw [zE_u2 _ _ (by omega), zE_u1, zE_u2 _ _ (by omega), zE_u2 _ _ (by omega), zE_u2 _ _ (by omega), zq_fl_o (by omega), zq_fl_o (by omega)]
  · rw [zE_u1, zE_u2 _ _ (by omega), zE_u2 _ _ (by omega), zE_u2 _ _ (by omega), zE_u2 _ _ (by omega), zq_fl_o (by omega), zq_fl_o (by omega)]
  · rw [zE_u2 _ _ (by omega), zE_u2 _ _ (by omega), zE_u2 _ _ (by omega), zE_u2 _ _ (by omega), zE_u2 _ _ (by omega), zq_fl_o (by omega), zq_fl_o (by omega)]
  · rw [zE_u2 _ _ (by omega), zE_u2 _ _ (by omega), zE_u2 _ _ (by omega), zE_u2 _ _ (by omega), zE_u2 _ _ (by omega), zq_fl_o (by omega), zq_fl_o (by omega)]
  · rw [zE_u2 _ _ (by omega), zE_u2 _ _ (by omega), zE_u2 _ _ (by omega), zE_u2 _ _ (by omega), zE_u2 _ _ (by omega), zq_fl_o (by omega), zq_fl_o (by omega)]
  · rw [zE_u2 _ _ (by omega), zE_u2 _ _ (by omega), zE_u2 _ _ (by omega), zE_u2 _ _ (by omega), zE_u2 _ _ (by omega), zq_fl_o (by omega), zq_fl_o (by omega)]
theorem zq_darkensM {sw : Bool} (I : zI) (tr : Nat → Int32) : ∃ I2, f_X11_darkens 148 I (zE_R sw) = some I2 ∧ zq_LM I I2 0 tr zq_z 0 0 := by
  unfold f_X11_darkens
  have h := zE_forE (step := s_X11_darkens_2 148 (zE_R sw)) (fun i => (nI i, zq_fl I 184 i 0)) (zq_fl I 184 4 0) 4 (fun i hi => by
    unfold s_X11_darkens_2
    simp only [zE_gM, zE_rM sw, zE_sM, zw_g_t, zw_let_e, zE_in (k := i) (n := 4) hi (by decide), zE_cl (k := i) (by omega), nI_1, zq_fl_s]
    exact if_neg (nI_ge (b := 4) hi (by omega))) (by
    unfold s_X11_darkens_2
    exact if_pos (show (4 : Int32) ≤ nI 4 by decide)) (by decide)
  rw [zq_fl_0] at h
  have h2 := zE_forE (step := s_X11_darkens_22 148 (zE_R sw)) (fun i => (nI i, zq_fl (zq_fl I 184 4 0) 185 i 0)) (zq_fl (zq_fl I 184 4 0) 185 12 0) 12 (fun i hi => by
    unfold s_X11_darkens_22
    simp only [zE_gM, zE_rM sw, zE_sM, zw_g_t, zw_let_e, zE_in (k := i) (n := 12) hi (by decide), zE_cl (k := i) (by omega), nI_1, zq_fl_s]
    exact if_neg (nI_ge (b := 12) hi (by omega))) (by
    unfold s_X11_darkens_22
    exact if_pos (show (12 : Int32) ≤ nI 12 by decide)) (by decide)
  rw [zq_fl_0] at h2
  rw [show ((0 : Int32), I) = (nI 0, I) from rfl, h, Option.bind_some, show ((0 : Int32), zq_fl I 184 4 0) = (nI 0, zq_fl I 184 4 0) from rfl, h2]
  simp only [Option.bind_some, zE_gM, zw_g_t, zw_let_e]
  refine ⟨_, rfl, fun a a1 a2 a3 a4 => ?_, fun y hy => ?_, fun j hj => ?_, ?_, ?_, ?_, ?_, ?_, ?_, fun j hj => ?_, fun j hj => by omega⟩
  · rw [zw_u_off _ _ _ a1, zw_u_off _ _ _ a1, zw_u_off _ _ _ a1, zw_u_off _ _ _ a1, zw_u_off _ _ _ a1, zw_u_off _ _ _ a1, zq_fl_o a3, zq_fl_o a2]
  · rw [zE_u2 _ _ (by omega), zE_u2 _ _ (by omega), zE_u2 _ _ (by omega), zE_u2 _ _ (by omega), zE_u2 _ _ (by omega), zE_u2 _ _ (by omega), zq_fl_o (by decide), zq_fl_o (by decide)]
  · rw [zw_u_off _ _ _ (by decide), zw_u_off _ _ _ (by decide), zw_u_off _ _ _ (by decide), zw_u_off _ _ _ (by decide), zw_u_off _ _ _ (by decide), zw_u_off _ _ _ (by decide), zq_fl_o (by decide), zq_fl_a hj]
    rfl
  · rw [zE_u2 _ _ (by decide), zE_u2 _ _ (by decide), zE_u2 _ _ (by decide), zE_u2 _ _ (by decide), zE_u2 _ _ (by decide), zE_u1]
    rfl
  · rw [zE_u2 _ _ (by decide), zE_u2 _ _ (by decide), zE_u2 _ _ (by decide), zE_u2 _ _ (by decide), zE_u1]
    rfl
  · rw [zE_u2 _ _ (by decide), zE_u2 _ _ (by decide), zE_u2 _ _ (by decide), zE_u1]
    rfl
  · rw [zE_u2 _ _ (by decide), zE_u2 _ _ (by decide), zE_u1]
  · rw [zE_u2 _ _ (by decide), zE_u1]
    rfl
  · rw [zE_u1]
  · rw [zw_u_off _ _ _ (by decide), zw_u_off _ _ _ (by decide), zw_u_off _ _ _ (by decide), zw_u_off _ _ _ (by decide), zw_u_off _ _ _ (by decide), zw_u_off _ _ _ (by decide), zq_fl_a hj]
    rfl
theorem zq_run_n {d : zq_D} {fl sl ea : Int32} : ∀ k (p : zq_P), (zq_run d fl sl ea k p).2.2.2.2.1 ≤ p.2.2.2.2.1 + k
  | 0, p => Nat.le_refl _
  | k + 1, p => by
    unfold zq_run
    split
    · have h := zq_run_n (d := d) (fl := fl) (sl := sl) (ea := ea) k (zq_step d fl sl ea p)
      have e : (zq_step d fl sl ea p).2.2.2.2.1 = p.2.2.2.2.1 + 1 := rfl
      omega
    · omega
theorem zq_lamp_n (d : zq_D) (fl sl ea : Int32) (lamp i : Nat) (l : Int32) (tr s : Nat → Int32) : (zq_lamp d fl sl ea lamp i l tr s).1 ≤ 300 := by
  unfold zq_lamp
  split
  · exact zq_run_n 300 _
  · exact Nat.zero_le _
theorem zq_col (c : Int32) : ((c < 0 ∨ nI 4 ≤ c) ∧ f_X10_isColour c = some 0 ∧ f_X11_isColour c = some 0) ∨ ∃ j, j < 4 ∧ c = nI j ∧ f_X10_isColour c = some 1 ∧ f_X11_isColour c = some 1 := by
  unfold f_X10_isColour f_X11_isColour
  rw [show (4 : Int32) = nI 4 from rfl]
  rcases pk_ix c (n := 4) (by decide) with h | h | ⟨j, hj, rfl⟩
  · exact Or.inl ⟨Or.inl h, if_pos h, if_pos h⟩
  · refine Or.inl ⟨Or.inr h, ?_, ?_⟩
    · rw [if_pos h]; split <;> rfl
    · rw [if_pos h]; split <;> rfl
  · refine Or.inr ⟨j, hj, rfl, ?_, ?_⟩
    · rw [if_neg (nI_pos (n := j) (by omega)), if_neg (nI_ge hj (by omega))]
    · rw [if_neg (nI_pos (n := j) (by omega)), if_neg (nI_ge hj (by omega))]
/-- the class's lamp -/
theorem zq_hasLamp {sw : Bool} {I : zI} {o : Nat} {d : zq_D} (hr : zq_dr sw o) (ok : zq_ok d) (dc : zq_DC I o d) (v i : Int32) : (f_X0_hasLamp o v i I = some 0 ∧ ((¬ v = 0 ∧ ¬ v = 1 ∧ ¬ v = 3) ∨ ((v = 0 ∨ v = 1 ∨ v = 3) ∧ (i < 0 ∨ nI (if v = 0 then d.w else d.t) ≤ i)))) ∨ ∃ lamp j, (lamp = 0 ∨ lamp = 1 ∨ lamp = 3) ∧ j < (if lamp = 0 then d.w else d.t) ∧ v = nI lamp ∧ i = nI j ∧ f_X0_hasLamp o v i I = some 1 := by
  have w2 := ok.w2
  have t2 := ok.t2
  unfold f_X0_hasLamp j_X0_hasLamp_32
  simp only [hr.1, zw_g_t, dc.w, dc.t]
  have key : ∀ n, n ≤ 12 → ((if i < 0 then some (0 : Int32) else if nI n ≤ i then some 0 else some 1) = some 0 ∧ (i < 0 ∨ nI n ≤ i)) ∨ ∃ j, j < n ∧ i = nI j ∧ (if i < 0 then some (0 : Int32) else if nI n ≤ i then some 0 else some 1) = some 1 := by
    intro n hn
    rcases pk_ix i (n := n) (by omega) with h | h | ⟨j, hj, rfl⟩
    · exact Or.inl ⟨if_pos h, Or.inl h⟩
    · refine Or.inl ⟨?_, Or.inr h⟩
      rw [if_pos h]; split <;> rfl
    · exact Or.inr ⟨j, hj, rfl, by rw [if_neg (nI_pos (n := j) (by omega)), if_neg (nI_ge hj (by omega))]⟩
  by_cases h0 : v = 0
  · subst h0
    rw [if_neg (fun q => q rfl)]
    rcases key d.w w2 with ⟨h1, h2⟩ | ⟨j, hj, e, h1⟩
    · exact Or.inl ⟨h1, Or.inr ⟨Or.inl rfl, by rw [if_pos rfl]; exact h2⟩⟩
    · exact Or.inr ⟨0, j, Or.inl rfl, by rw [if_pos rfl]; exact hj, rfl, e, h1⟩
  · rw [if_pos h0]
    by_cases h1 : v = 1
    · subst h1
      rw [if_pos rfl]
      rcases key d.t t2 with ⟨h1, h2⟩ | ⟨j, hj, e, h1⟩
      · exact Or.inl ⟨h1, Or.inr ⟨Or.inr (Or.inl rfl), by rw [if_neg h0]; exact h2⟩⟩
      · exact Or.inr ⟨1, j, Or.inr (Or.inl rfl), by rw [if_neg (by decide)]; exact hj, rfl, e, h1⟩
    · rw [if_neg h1]
      by_cases h3 : v = 3
      · subst h3
        rw [if_neg (fun q => q rfl)]
        rcases key d.t t2 with ⟨h1, h2⟩ | ⟨j, hj, e, h1⟩
        · exact Or.inl ⟨h1, Or.inr ⟨Or.inr (Or.inr rfl), by rw [if_neg h0]; exact h2⟩⟩
        · exact Or.inr ⟨3, j, Or.inr (Or.inr rfl), by rw [if_neg (by decide)]; exact hj, rfl, e, h1⟩
      · rw [if_pos h3]
        exact Or.inl ⟨rfl, Or.inl ⟨h0, h1, h3⟩⟩
theorem zq_HM_tr {b : Bool} {I I2 : zI} {H : zq_H} (h : zq_HM b I H) (h1 : ∀ a, 156 ≤ a → a ≤ 180 → I2 a = I a) (h2 : I2 148 18 = I 148 18) : zq_HM b I2 H := by
  unfold zq_HM zq_DM at *
  rw [h2, h1 158 (by decide) (by decide), h1 159 (by decide) (by decide), h1 160 (by decide) (by decide), h1 161 (by decide) (by decide), h1 162 (by decide) (by decide), h1 163 (by decide) (by decide), h1 164 (by decide) (by decide), h1 165 (by decide) (by decide), h1 166 (by decide) (by decide)]
  exact h
theorem zq_HC_tr {b : Bool} {I I2 : zI} {H : zq_H} (hK : zq_HK H) (h : zq_HC b I H) (h1 : ∀ a, 8 ≤ a → a ≤ 121 → I2 a = I a) : zq_HC b I2 H := by
  have hb : 8 ≤ zE_h b ∧ zE_h b ≤ 65 := by cases b <;> decide
  obtain ⟨a1, a2, a3, a4, a5⟩ := h
  refine ⟨by rw [h1 _ hb.1 (by omega)]; exact a1, by rw [h1 _ hb.1 (by omega)]; exact a2, by rw [h1 _ hb.1 (by omega)]; exact a3, fun k hk => ?_, fun k hk => ?_⟩
  · have k4 : k < 4 := by have := hK.1; omega
    rw [h1 (zE_h b + (10 + 3 * k)) (by omega) (by omega), h1 (zE_h b + (11 + 3 * k)) (by omega) (by omega), h1 (zE_h b + (9 + 3 * k)) (by omega) (by omega)]
    exact a4 k hk
  · have k10 := zq_has10 hK hk
    unfold zq_DC zq_DX
    rw [h1 (zE_h b + (21 + 2 * k)) (by omega) (by omega), h1 (zE_h b + (21 + 2 * k) + 1) (by omega) (by omega)]
    exact a5 k hk
