/-! ===== ray ===== -/
theorem zq_rowAny {b : Bool} {I : zI} {H : zq_H} (hK : zq_HK H) (hM : zq_HM b I H) (k : Int32) : (∃ q, f_X11_cutRow 148 k I (zE_R b) = some q) ∧ (∃ q, f_X11_roughRow 148 k I (zE_R b) = some q) ∧ ∃ q, f_X11_stuffRow 148 k I (zE_R b) = some q := by
  have k1 := hK.1
  have k2 := hK.2.1
  have k3 := hK.2.2.1
  refine ⟨?_, ?_, ?_⟩
  · rcases pk_ix k (n := H.nc) (by omega) with h | h | ⟨j, hj, e⟩
    · exact ⟨_, (zq_cutRow hK hM k).1 (Or.inl h)⟩
    · exact ⟨_, (zq_cutRow hK hM k).1 (Or.inr h)⟩
    · exact ⟨_, (zq_cutRow hK hM k).2 j hj e⟩
  · rcases pk_ix k (n := H.nr) (by omega) with h | h | ⟨j, hj, e⟩
    · exact ⟨_, (zq_roughRow hK hM k).1 (Or.inl h)⟩
    · exact ⟨_, (zq_roughRow hK hM k).1 (Or.inr h)⟩
    · exact ⟨_, (zq_roughRow hK hM k).2 j hj e⟩
  · rcases pk_ix k (n := H.ns) (by omega) with h | h | ⟨j, hj, e⟩
    · exact ⟨_, (zq_stuffRow hK hM k).1 (Or.inl h)⟩
    · exact ⟨_, (zq_stuffRow hK hM k).1 (Or.inr h)⟩
    · exact ⟨_, (zq_stuffRow hK hM k).2 j hj e⟩
/-- what ray leaves alone -/
def zq_oRay (I2 I : zI) : Prop := (∀ a, a ≠ 1 → (a < 122 ∨ 125 < a) → a ≠ 148 → (a < 184 ∨ 188 < a) → I2 a = I a) ∧ (∀ y, y ≠ 4 → I2 1 y = I 1 y) ∧ ∀ y, (y < 54 ∨ 62 < y) → I2 148 y = I 148 y
theorem zq_oRay_r (I : zI) : zq_oRay I I := ⟨fun _ _ _ _ _ => rfl, fun _ _ => rfl, fun _ _ => rfl⟩
/-- the model's ray, once all is asked for rightly -/
theorem zq_rayM {b : Bool} {I : zI} {k q c : Nat} {d : zq_D} {fl sl ea : Int32} (hk : k < 20) (hq : q < 8) (hc : c < 4) (ok : zq_ok d) (dm : zq_DM I k d) (hfl : I 159 (4 * q + c) = fl) (hsl : I 160 (4 * q + c) = sl) (hea : I 161 q = ea) (lamp i : Nat) (hlamp : lamp = 0 ∨ lamp = 1 ∨ lamp = 3) (hi : i < if lamp = 0 then d.w else d.t) (l : Int32) (hl1 : ¬ l < 1) (hl2 : ¬ 100000 < l) (n : Nat) (tr s : Nat → Int32) (he : zq_lamp d fl sl ea lamp i l zq_z zq_z = (n, tr, s)) (nn : Nat) (hnn : nn = if lamp = 0 then d.w else d.t) : ∃ I2, j_X11_ray_75 148 (nI c) (nI lamp) (nI i) l (nI k) (nI q) (nI i) 0 (nI nn) I (zE_R b) = some (nI n, I2) ∧ (∀ a, a ≠ 148 → (a < 184 ∨ 188 < a) → I2 a = I a) ∧ (∀ y, (y < 54 ∨ 62 < y) → I2 148 y = I 148 y) ∧ I2 148 61 = 1 ∧ I2 148 62 = nI n ∧ (∀ j, j < n → I2 187 j = tr j) ∧ ∀ j, j < 7 → I2 188 j = s j := by
  have w2 := ok.w2
  have t2 := ok.t2
  have hn : n ≤ 300 := by
    have := zq_lamp_n d fl sl ea lamp i l zq_z zq_z
    rw [he] at this
    exact this
  have hnn2 : nn ≤ 12 := by rw [hnn]; split <;> omega
  obtain ⟨Ia, a1, a2⟩ := zq_darkensM (sw := b) I zq_z
  obtain ⟨Ib, b1, b2⟩ := zq_lampM (sw := b) hk hq hc ok dm hfl hsl hea lamp i hlamp hi l a2
  rw [he] at b2
  dsimp only at b2
  obtain ⟨c1, c2, c3, c4, c5, c6, c7, c8, c9, c10, c11⟩ := b2
  have c7b : Ib 148 57 = nI n := c7.trans (Int32.zero_add _)
  have e57 : zw_u Ib 148 61 1 148 57 = nI n := (zE_u2 _ _ (by decide)).trans c7b
  have f57 : zw_u (zw_u Ib 148 61 1) 148 62 (nI n) 148 57 = nI n := (zE_u2 _ _ (by decide)).trans e57
  have lp1 := zE_forE (step := s_X11_ray_132 148 (zE_R b)) (fun i => (nI i, zq_cp (zw_u (zw_u Ib 148 61 1) 148 62 (nI n)) 187 186 i)) (zq_cp (zw_u (zw_u Ib 148 61 1) 148 62 (nI n)) 187 186 n) n (fun i hi => by
    unfold s_X11_ray_132
    simp only [zE_gM, zE_rM b, zE_sM, zw_g_t, zw_let_e, zE_in (k := i) (n := 300) (by omega) (by decide), zE_cl (k := i) (by omega), nI_1, zq_cp_s _ 187 186 i (by decide), zq_cp_o (a := 187) (b := 186) (o := 148) (by decide), f57]
    exact if_neg (nI_ge hi (by omega))) (by
    unfold s_X11_ray_132
    simp only [zE_gM, zw_g_t, zq_cp_o (a := 187) (b := 186) (o := 148) (by decide), f57]
    exact if_pos (nI_le (Nat.le_refl n) (by omega))) (by omega)
  rw [zq_cp_0] at lp1
  have lp2 := zE_forE (step := s_X11_ray_164 148 (zE_R b)) (fun i => (nI i, zq_cp (zq_cp (zw_u (zw_u Ib 148 61 1) 148 62 (nI n)) 187 186 n) 188 184 i)) (zq_cp (zq_cp (zw_u (zw_u Ib 148 61 1) 148 62 (nI n)) 187 186 n) 188 184 4) 4 (fun i hi => by
    unfold s_X11_ray_164
    simp only [zE_gM, zE_rM b, zE_sM, zw_g_t, zw_let_e, zE_in (k := i) (n := 4) hi (by decide), zE_in (k := i) (n := 7) (by omega) (by decide), zE_cl (k := i) (by omega), nI_1, zq_cp_s _ 188 184 i (by decide)]
    exact if_neg (nI_ge (b := 4) hi (by omega))) (by
    unfold s_X11_ray_164
    exact if_pos (show (4 : Int32) ≤ nI 4 by decide)) (by decide)
  rw [zq_cp_0] at lp2
  have r148 : ∀ y, y ≠ 61 → y ≠ 62 → zq_cp (zq_cp (zw_u (zw_u Ib 148 61 1) 148 62 (nI n)) 187 186 n) 188 184 4 148 y = Ib 148 y := fun y h1 h2 => by
    rw [zq_cp_o (by decide), zq_cp_o (by decide), zE_u2 _ _ (by omega), zE_u2 _ _ (by omega)]
  have off148 : ∀ (F : zI) (k : Nat) (v : Int32), zw_u F 188 k v 148 = F 148 := fun F k v => zw_u_off _ _ _ (by decide)
  unfold j_X11_ray_75
  rw [zE_in_ok (show i < nn by rw [hnn]; exact hi) (by omega), Option.bind_some, if_neg zE_10]
  have e1 : f_X11_in l 1 100000 = some 1 := by unfold f_X11_in; rw [if_neg hl1, if_neg hl2]
  rw [e1, Option.bind_some, if_pos zE_10]
  simp only [zE_gM, zE_rM b, zE_sM, zw_g_t, zw_let_e, a1, b1, Option.bind_some, e57]
  rw [show ((0 : Int32), zw_u (zw_u Ib 148 61 1) 148 62 (nI n)) = (nI 0, zw_u (zw_u Ib 148 61 1) 148 62 (nI n)) from rfl, lp1, Option.bind_some, show ((0 : Int32), zq_cp (zw_u (zw_u Ib 148 61 1) 148 62 (nI n)) 187 186 n) = (nI 0, zq_cp (zw_u (zw_u Ib 148 61 1) 148 62 (nI n)) 187 186 n) from rfl, lp2, Option.bind_some]
  simp only [show zw_in 4 7 = true from rfl, show zw_in 5 7 = true from rfl, show zw_in 6 7 = true from rfl, zw_g_t, show Int32.toNatClampNeg 4 = 4 from rfl, show Int32.toNatClampNeg 5 = 5 from rfl, show Int32.toNatClampNeg 6 = 6 from rfl, off148, r148 54 (by decide) (by decide), r148 55 (by decide) (by decide), r148 56 (by decide) (by decide), r148 57 (by decide) (by decide), c7b]
  refine ⟨_, rfl, fun a h1 h2 => ?_, fun y hy => ?_, ?_, ?_, fun j hj => ?_, fun j hj => ?_⟩
  · rw [zw_u_off _ _ _ (by omega), zw_u_off _ _ _ (by omega), zw_u_off _ _ _ (by omega), zq_cp_o (by omega), zq_cp_o (by omega), zw_u_off _ _ _ h1, zw_u_off _ _ _ h1, c1 a h1 (by omega) (by omega) (by omega)]
  · rw [zw_u_off _ _ _ (by omega), zw_u_off _ _ _ (by omega), zw_u_off _ _ _ (by omega), r148 y (by omega) (by omega), c2 y (by omega)]
  · rw [zw_u_off _ _ _ (by omega), zw_u_off _ _ _ (by omega), zw_u_off _ _ _ (by omega), zq_cp_o (by omega), zq_cp_o (by omega), zE_u2 _ _ (by decide), zE_u1]
  · rw [zw_u_off _ _ _ (by omega), zw_u_off _ _ _ (by omega), zw_u_off _ _ _ (by omega), zq_cp_o (by omega), zq_cp_o (by omega), zE_u1]
  · rw [zw_u_off _ _ _ (by omega), zw_u_off _ _ _ (by omega), zw_u_off _ _ _ (by omega), zq_cp_o (by omega), zq_cp_a hj, zw_u_off _ _ _ (by omega), zw_u_off _ _ _ (by omega)]
    exact c11 j hj
  · by_cases h6 : j = 6
    · subst h6; rw [zE_u1]; exact c6
    · rw [zE_u2 _ _ (by omega)]
      by_cases h5 : j = 5
      · subst h5; rw [zE_u1]; exact c5
      · rw [zE_u2 _ _ (by omega)]
        by_cases h4 : j = 4
        · subst h4; rw [zE_u1]; exact c4
        · rw [zE_u2 _ _ (by omega), zq_cp_a (by omega), zq_cp_o (by decide), zw_u_off _ _ _ (by decide), zw_u_off _ _ _ (by decide)]
          exact c3 j (by omega)
theorem zq_rayE {b : Bool} {I : zI} {H : zq_H} (hK : zq_HK H) (hC : zq_HC b I H) (hM : zq_HM b I H) (v1 v2 v3 v4 v5 v6 : Int32) : ∃ r I1 I2, f_X10_ray 1 v1 v2 v3 v4 v5 v6 I (zE_R b) = some (r, I1) ∧ f_X11_ray 148 v1 v2 v3 v4 v5 v6 I1 (zE_R b) = some (r, I2) ∧ (zE_Y I → zE_Y I2) ∧ zq_oRay I2 I := by
  have hb : 8 ≤ zE_h b ∧ zE_h b ≤ 65 := by cases b <;> decide
  have hl := zq_lv1 b
  have k1 := hK.1
  have k2 := hK.2.1
  unfold f_X10_ray f_X11_ray
  simp only [zE_gC, zE_gM, zw_g_t]
  obtain ⟨qa, hqa⟩ := (zq_rowAny hK hM v2).2.2
  rcases zq_isCut hK hC v1 with ⟨c1, c2⟩ | ⟨k, hk, rfl, c2⟩
  · rw [c2]
    refine ⟨-1, I, I, rfl, ?_, id, zq_oRay_r I⟩
    rw [(zq_cutRow hK hM v1).1 c1, hqa]
    rfl
  rw [c2, Option.bind_some, if_neg zE_10]
  rcases zq_isStuff hK hC v2 with ⟨s1, s2⟩ | ⟨q, hq, rfl, s2⟩
  · rw [s2]
    refine ⟨-1, I, I, rfl, ?_, id, zq_oRay_r I⟩
    rw [(zq_cutRow hK hM _).2 k hk rfl, (zq_stuffRow hK hM v2).1 s1]
    simp only [Option.bind_some, if_neg (zq_nm1 (n := 10 * zq_lv b + k) (by omega))]
    rfl
  rw [s2, Option.bind_some, if_neg zE_10]
  rcases zq_col v3 with ⟨-, t1, t2⟩ | ⟨c, hc, rfl, t1, t2⟩
  · rw [t1]
    refine ⟨-1, I, I, rfl, ?_, id, zq_oRay_r I⟩
    rw [(zq_cutRow hK hM _).2 k hk rfl, (zq_stuffRow hK hM _).2 q hq rfl, t2]
    simp only [Option.bind_some, if_neg (zq_nm1 (n := 10 * zq_lv b + k) (by omega)), if_neg (zq_nm1 (n := 4 * zq_lv b + q) (by omega))]
    rfl
  have ok := hK.2.2.2.2 k (Or.inl hk)
  have w2 := ok.w2
  have t2b := ok.t2
  obtain ⟨dc, -⟩ := hC.2.2.2.2 k (Or.inl hk)
  have hr := zq_drk b b k (by omega)
  have hs := zq_sfk b b q (by omega)
  rw [t1, Option.bind_some, if_pos zE_10]
  simp only [zE_rh b, zE_gH b, zE_rH b b, zE_sH b, zw_g_t, zE_cl (k := k) (by omega), zE_in (k := k) (n := 6) (by omega) (by decide), zE_rHc b b k (by omega), hr.1, zE_cl (k := q) (by omega), zE_in (k := q) (n := 4) (by omega) (by decide), zE_rHs b b q (by omega), hs.1, zE_rC b, zE_gC]
  have mno : ∀ J : zI, (zq_HM b J H) → ((¬ v4 = 0 ∧ ¬ v4 = 1 ∧ ¬ v4 = 3) ∨ ((v4 = 0 ∨ v4 = 1 ∨ v4 = 3) ∧ ((v5 < 0 ∨ nI (if v4 = 0 then (H.D k).w else (H.D k).t) ≤ v5) ∨ ((∃ j, v5 = nI j ∧ j < (if v4 = 0 then (H.D k).w else (H.D k).t)) ∧ (v6 < 1 ∨ 100000 < v6))))) → ((f_X11_cutRow 148 (nI k) J (zE_R b)).bind fun q2 => ((f_X11_stuffRow 148 (nI q) J (zE_R b)).bind fun q3 => (if q2 = (-1) then some ((-1), J) else if q3 = (-1) then some ((-1), J) else (f_X11_isColour (nI c)).bind fun q6 => (if q6 = 0 then some ((-1), J) else if v4 = 0 then j_X11_ray_50 148 (nI c) v4 v5 v6 q2 q3 J (zE_R b) else if v4 = 1 then j_X11_ray_50 148 (nI c) v4 v5 v6 q2 q3 J (zE_R b) else if ¬ v4 = 3 then some ((-1), J) else j_X11_ray_50 148 (nI c) v4 v5 v6 q2 q3 J (zE_R b))))) = some (-1, J) := by
    intro J hMJ hno
    rw [(zq_cutRow hK hMJ _).2 k hk rfl, (zq_stuffRow hK hMJ _).2 q hq rfl, t2]
    simp only [Option.bind_some, if_neg (zq_nm1 (n := 10 * zq_lv b + k) (by omega)), if_neg (zq_nm1 (n := 4 * zq_lv b + q) (by omega)), if_neg zE_10]
    have dm := hMJ.2.2.2.2.2 k (Or.inl hk)
    rcases hno with ⟨n0, n1, n3⟩ | ⟨y3, hno⟩
    · rw [if_neg n0, if_neg n1, if_pos n3]
    · have e50 : j_X11_ray_50 148 (nI c) v4 v5 v6 (nI (10 * zq_lv b + k)) (nI (4 * zq_lv b + q)) J (zE_R b) = some (-1, J) := by
        unfold j_X11_ray_50 j_X11_ray_75
        simp only [zE_gM, zE_rM b, zE_sM, zw_g_t, zE_in (k := 10 * zq_lv b + k) (n := 20) (by omega) (by decide), zE_cl (k := 10 * zq_lv b + k) (by omega), dm.w, dm.t]
        have ein : ∀ n : Nat, n ≤ 12 → ((v5 < 0 ∨ nI n ≤ v5) ∨ ((∃ j, v5 = nI j ∧ j < n) ∧ (v6 < 1 ∨ 100000 < v6))) → ∀ X : Int32 → Option (Int32 × zI), (f_X11_in v5 0 (nI n - 1)).bind (fun q13 => if q13 = 0 then some ((-1), J) else (f_X11_in v6 1 100000).bind fun q15 => (if ¬ q15 = 0 then X q15 else some ((-1), J))) = some (-1, J) := by
          intro n hn h X
          rcases h with h | ⟨⟨j, rfl, hj⟩, h⟩
          · rw [zq_in_no h (by omega)]
            rfl
          · rw [zE_in_ok hj (by omega), Option.bind_some, if_neg zE_10]
            have e1 : f_X11_in v6 1 100000 = some 0 := by
              unfold f_X11_in
              rcases h with h | h
              · rw [if_pos h]
              · rw [if_pos h]; split <;> rfl
            rw [e1]
            rfl
        by_cases h0 : v4 = 0
        · rw [if_neg (fun q => q h0)]
          rw [if_pos h0] at hno
          exact ein _ w2 hno _
        · rw [if_pos h0]
          rw [if_neg h0] at hno
          exact ein _ t2b hno _
      rw [e50]
      split
      · rfl
      · split
        · rfl
        · split <;> rfl
  rcases zq_hasLamp hr ok dc v4 v5 with ⟨l1, l2⟩ | ⟨lamp, i, hlamp, hi, rfl, rfl, l1⟩
  · rw [l1]
    refine ⟨-1, I, I, rfl, ?_, id, zq_oRay_r I⟩
    refine mno I hM ?_
    rcases l2 with l2 | ⟨l2, l3⟩
    · exact Or.inl l2
    · exact Or.inr ⟨l2, Or.inl l3⟩
  rw [l1, Option.bind_some, if_neg zE_10]
  have hv4 : (nI lamp = 0 ∨ nI lamp = 1 ∨ nI lamp = 3) := by
    rcases hlamp with rfl | rfl | rfl
    · exact Or.inl rfl
    · exact Or.inr (Or.inl rfl)
    · exact Or.inr (Or.inr rfl)
  have hv0 : (nI lamp = 0) ↔ lamp = 0 := ⟨fun q => (nI_eq (by omega) (by decide)).mp (show nI lamp = nI 0 from q), fun q => by rw [q]; rfl⟩
  have hif : (if nI lamp = 0 then (H.D k).w else (H.D k).t) = if lamp = 0 then (H.D k).w else (H.D k).t := by
    by_cases q0 : lamp = 0
    · rw [if_pos q0, if_pos (hv0.mpr q0)]
    · rw [if_neg q0, if_neg (fun q => q0 (hv0.mp q))]
  by_cases hl1 : v6 < 1
  · rw [if_pos hl1]
    exact ⟨-1, I, I, rfl, mno I hM (Or.inr ⟨hv4, Or.inr ⟨⟨i, rfl, by rw [hif]; exact hi⟩, Or.inl hl1⟩⟩), id, zq_oRay_r I⟩
  rw [if_neg hl1]
  by_cases hl2 : v6 ≤ 100000
  case neg =>
    rw [if_neg hl2]
    exact ⟨-1, I, I, rfl, mno I hM (Or.inr ⟨hv4, Or.inr ⟨⟨i, rfl, by rw [hif]; exact hi⟩, Or.inr (by rw [Int32.lt_iff_toInt_lt]; rw [Int32.le_iff_toInt_le] at hl2; omega)⟩⟩), id, zq_oRay_r I⟩
  rw [if_pos hl2]
  have hl3 : ¬ 100000 < v6 := by rw [Int32.lt_iff_toInt_lt]; rw [Int32.le_iff_toInt_le] at hl2; omega
  obtain ⟨Ib, b1, b2⟩ := zq_beginC (I := I) (o := 122) (st := zE_h b + (9 + 3 * q)) (c := c) (zq_li1 b) hs (by omega) hc zq_z
  have hst := (hC.2.2.2.1 q hq)
  have e1 : I (zE_h b + (9 + 3 * q) + 1) c = nI (H.fl q c) := by rw [← (hst.1 c hc).1]; rw [show zE_h b + (9 + 3 * q) + 1 = zE_h b + (10 + 3 * q) by omega]
  have e2 : I (zE_h b + (9 + 3 * q) + 2) c = nI (H.sl q c) := by rw [← (hst.1 c hc).2]; rw [show zE_h b + (9 + 3 * q) + 2 = zE_h b + (11 + 3 * q) by omega]
  rw [e1, e2, hst.2] at b2
  obtain ⟨If, x2, y2, w2', l2, f1, f2⟩ := zq_followC (l := v6) (zq_li1 b) hr (by omega) ok dc lamp i hlamp b2
  rcases hz : zq_lamp (H.D k) (nI (H.fl q c)) (nI (H.sl q c)) (nI (H.ea q)) lamp i v6 zq_z zq_z with ⟨n, tr, s⟩
  rw [hz] at f2
  dsimp only at f2
  have hn : n ≤ 300 := by
    have := zq_lamp_n (H.D k) (nI (H.fl q c)) (nI (H.sl q c)) (nI (H.ea q)) lamp i v6 zq_z zq_z
    rw [hz] at this
    exact this
  rw [b1, Option.bind_some, f1, Option.bind_some, zw_let_e]
  have fa := f2.1
  have g1 : ∀ a, a ≠ 1 → (a < 122 ∨ 125 < a) → zw_u If 1 4 1 a = I a := fun a h1 h2 => by rw [zw_u_off _ _ _ h1]; exact fa a h2
  have g2 : ∀ a, 122 ≤ a → zw_u If 1 4 1 a = If a := fun a h1 => zw_u_off _ _ _ (by omega)
  have hM1 : zq_HM b (zw_u If 1 4 1) H := zq_HM_tr hM (fun a h1 h2 => g1 a (by omega) (by omega)) (by rw [g1 148 (by decide) (by decide)])
  have dm := hM1.2.2.2.2.2 k (Or.inl hk)
  have hmst := hM1.2.2.2.2.1 q hq
  obtain ⟨I2, m1, m2, m3, m4, m5, m6, m7⟩ := zq_rayM (b := b) (k := 10 * zq_lv b + k) (q := 4 * zq_lv b + q) (c := c) (by omega) (by omega) hc ok dm (hmst.1 c hc).1 (hmst.1 c hc).2 hmst.2 lamp i hlamp hi v6 hl1 hl3 n tr s hz _ rfl
  refine ⟨_, _, I2, rfl, ?_, fun _ => Or.inr ⟨?_, m4, n, hn, ?_, m5, fun j hj => ?_, fun j hj => ?_⟩, fun a h1 h2 h3 h4 => ?_, fun y hy => ?_, fun y hy => ?_⟩
  · rw [(zq_cutRow hK hM1 _).2 k hk rfl, (zq_stuffRow hK hM1 _).2 q hq rfl, t2]
    simp only [Option.bind_some, if_neg (zq_nm1 (n := 10 * zq_lv b + k) (by omega)), if_neg (zq_nm1 (n := 4 * zq_lv b + q) (by omega)), if_neg zE_10]
    have er : zw_u If 1 4 1 122 1 = nI n := by rw [g2 122 (by decide)]; exact f2.2.1
    have e50 : j_X11_ray_50 148 (nI c) (nI lamp) (nI i) v6 (nI (10 * zq_lv b + k)) (nI (4 * zq_lv b + q)) (zw_u If 1 4 1) (zE_R b) = some (nI n, I2) := by
      unfold j_X11_ray_50
      simp only [zE_gM, zE_rM b, zE_sM, zw_g_t, zE_in (k := 10 * zq_lv b + k) (n := 20) (by omega) (by decide), zE_cl (k := 10 * zq_lv b + k) (by omega), dm.w, dm.t]
      by_cases h0 : lamp = 0
      · rw [if_neg (fun q => q (hv0.mpr h0))]
        rw [if_pos h0] at m1
        exact m1
      · rw [if_pos (fun q => h0 (hv0.mp q))]
        rw [if_neg h0] at m1
        exact m1
    rw [er, e50]
    rcases hv4 with y | y | y
    · rw [if_pos y]
    · rw [if_pos y]; split <;> rfl
    · rw [if_neg (show ¬ ¬ nI lamp = 3 from fun q => q y)]; split
      · rfl
      · split <;> rfl
  · rw [m2 1 (by decide) (by decide), zE_u1]
  · rw [m2 122 (by decide) (by decide), g2 122 (by decide)]; exact f2.2.1
  · rw [m2 123 (by decide) (by decide), g2 123 (by decide), m6 j hj]; exact f2.2.2.1 j hj
  · rw [m2 124 (by decide) (by decide), g2 124 (by decide), m7 j hj]; exact f2.2.2.2.1 j hj
  · rw [m2 a h3 h4, g1 a h1 h2]
  · rw [m2 1 (by decide) (by decide), zE_u2 _ _ (by omega), fa 1 (by decide)]
  · rw [m3 y hy, g1 148 (by decide) (by decide)]
