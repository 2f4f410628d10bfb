/-! ===== two ===== -/
/-- what lies beside a saw: saw, the left cut, the right one -/
abbrev zr_X : Type := Option (Nat × Nat × Nat)
def zr_xi (p : Nat → Nat) : zr_X → Int
  | none => -1
  | some x => (p x.2.1 : Int) + p x.2.2
def zr_xv (p : Nat → Nat) : zr_X → Int32
  | none => -2
  | some x => nI (p x.2.1 + p x.2.2)
theorem zr_xv_le {p : Nat → Nat} (hp : ∀ c, p c ≤ 1000000) (X : zr_X) {n : Nat} (hn : n ≤ 2000000) : nI n ≤ zr_xv p X ↔ (n : Int) ≤ zr_xi p X := by
  cases X with
  | none =>
    show nI n ≤ -2 ↔ (n : Int) ≤ -1
    rw [Int32.le_iff_toInt_le, nI_toInt (by omega), show (-2 : Int32).toInt = -2 by decide]
    omega
  | some x =>
    have h1 := hp x.2.1
    have h2 := hp x.2.2
    show nI n ≤ nI (p x.2.1 + p x.2.2) ↔ (n : Int) ≤ (p x.2.1 : Int) + p x.2.2
    rw [nI_leI (by omega) (by omega)]
    omega
theorem zr_xv_lt {p : Nat → Nat} (hp : ∀ c, p c ≤ 1000000) (X : zr_X) {n : Nat} (hn : n ≤ 2000000) : zr_xv p X < nI n ↔ zr_xi p X < (n : Int) := by
  have h := zr_xv_le hp X hn
  rw [Int32.le_iff_toInt_le] at h
  rw [Int32.lt_iff_toInt_lt]
  omega
theorem zr_xv_m2 {p : Nat → Nat} (hp : ∀ c, p c ≤ 1000000) (X : zr_X) : zr_xv p X = -2 ↔ X = none := by
  cases X with
  | none => exact ⟨fun _ => rfl, fun _ => rfl⟩
  | some x =>
    have h1 := hp x.2.1
    have h2 := hp x.2.2
    refine ⟨fun h => ?_, fun h => by cases h⟩
    have h3 : nI (p x.2.1 + p x.2.2) = -2 := h
    have h4 := congrArg Int32.toInt h3
    rw [nI_toInt (by omega), show (-2 : Int32).toInt = -2 by decide] at h4
    omega
/-- the row of what lies -/
noncomputable def zr_l7 (H : zq_H) (kr : Nat) (x : Nat × Nat × Nat) (j : Nat) : Int32 := if j = 0 then nI x.1 else if j = 1 then nI x.2.1 else if j = 2 then zq_fp (H.D x.2.1) (H.D (6 + kr)) 0 x.1 - zq_fp (H.D x.2.1) (H.D (6 + kr)) 0 x.1 / 12 * 12 else if j = 3 then zq_fp (H.D x.2.1) (H.D (6 + kr)) 0 x.1 / 12 else if j = 4 then nI x.2.2 else if j = 5 then zq_fp (H.D x.2.2) (H.D (6 + kr)) x.1 12 - zq_fp (H.D x.2.2) (H.D (6 + kr)) x.1 12 / 12 * 12 else zq_fp (H.D x.2.2) (H.D (6 + kr)) x.1 12 / 12
/-- with one more saw -/
noncomputable def zr_nx (H : zq_H) (m kr : Nat) (p : Nat → Nat) (X : zr_X) (saw : Nat) : zr_X := match zr_bd (zr_li H m kr 0 saw) p H.nc, zr_bd (zr_li H m kr saw 12) p H.nc with
  | some l, some r => if (p l + p r : Nat) ≤ zr_xi p X then X else some (saw, l, r)
  | _, _ => X
noncomputable def zr_xs (H : zq_H) (m kr : Nat) (p : Nat → Nat) : Nat → zr_X
  | 0 => none
  | n + 1 => zr_nx H m kr p (zr_xs H m kr p n) (n + 1)
theorem zr_li_w {H : zq_H} (hK : zq_HK H) {m kr a p} (hkr : kr < H.nr) : zr_bd (zr_li H m kr a (H.D (6 + kr)).w) p H.nc = zr_bd (zr_li H m kr a 12) p H.nc := by
  have okr := hK.2.2.2.2 (6 + kr) (Or.inr ⟨by omega, by omega⟩)
  have : ∀ n, n ≤ H.nc → zr_bd (zr_li H m kr a (H.D (6 + kr)).w) p n = zr_bd (zr_li H m kr a 12) p n := by
    intro n
    induction n with
    | zero => intro _; rfl
    | succ n ih =>
      intro hn
      have e1 : zr_li H m kr a (H.D (6 + kr)).w n = zr_li H m kr a 12 n := by
        unfold zr_li
        rw [zq_fp_w (hK.2.2.2.2 n (Or.inl (by omega))) okr]
      unfold zr_bd
      rw [ih (by omega), e1]
  exact this _ (Nat.le_refl _)
theorem zr_twoC {b : Bool} {I : zI} {H : zq_H} (hK : zq_HK H) (hC : zq_HC b I H) {m kr : Nat} {p : Nat → Nat} (hm : m < 64) (hkr : kr < H.nr) (hp : ∀ c, p c ≤ 1000000) (h140 : ∀ c, c < H.nc → zr_T m c = true → I 140 c = nI (p c)) (h141 : ∀ j, j < 7 → I 141 j = -1) : ∃ I2, zw_it (s_X10_two_58 1 (nI m) (zE_h b + (21 + 2 * (6 + kr))) (zE_R b)) 1000000 (-2, 1, I) = some (zr_xv p (zr_xs H m kr p ((H.D (6 + kr)).w - 1)), I2) ∧ (∀ a, a ≠ 141 → I2 a = I a) ∧ ((zr_xs H m kr p ((H.D (6 + kr)).w - 1) = none ∧ ∀ j, j < 7 → I2 141 j = -1) ∨ ∃ x, zr_xs H m kr p ((H.D (6 + kr)).w - 1) = some x ∧ ∀ j, j < 7 → I2 141 j = zr_l7 H kr x j) := by
  have hb := zE_hb b
  have k2 := hK.2.1
  have k3 := hK.2.2.1
  have okr := hK.2.2.2.2 (6 + kr) (Or.inr ⟨by omega, by omega⟩)
  have w1 := okr.w1
  have w2 := okr.w2
  have go := zE_for (step := s_X10_two_58 1 (nI m) (zE_h b + (21 + 2 * (6 + kr))) (zE_R b)) (fun i s => ∃ I', s = (zr_xv p (zr_xs H m kr p i), nI (i + 1), I') ∧ (∀ a, a ≠ 141 → I' a = I a) ∧ ((zr_xs H m kr p i = none ∧ ∀ j, j < 7 → I' 141 j = -1) ∨ ∃ x, zr_xs H m kr p i = some x ∧ ∀ j, j < 7 → I' 141 j = zr_l7 H kr x j)) (fun r => ∃ I2, r = (zr_xv p (zr_xs H m kr p ((H.D (6 + kr)).w - 1)), I2) ∧ (∀ a, a ≠ 141 → I2 a = I a) ∧ ((zr_xs H m kr p ((H.D (6 + kr)).w - 1) = none ∧ ∀ j, j < 7 → I2 141 j = -1) ∨ ∃ x, zr_xs H m kr p ((H.D (6 + kr)).w - 1) = some x ∧ ∀ j, j < 7 → I2 141 j = zr_l7 H kr x j)) ((H.D (6 + kr)).w - 1) ?_ ?_ 0 (-2, 1, I) (by omega) (by omega) ⟨I, rfl, fun _ _ => rfl, Or.inl ⟨rfl, h141⟩⟩
  · obtain ⟨r, q1, I2, rfl, q2⟩ := go
    exact ⟨I2, q1, q2⟩
  · rintro i s hi ⟨I', rfl, f1, f2⟩
    have hC' : zq_HC b I' H := zq_HC_tr hK hC (fun a a1 a2 => f1 a (by omega))
    have h140' : ∀ c, c < H.nc → zr_T m c = true → I' 140 c = nI (p c) := fun c x y => by rw [f1 140 (by decide)]; exact h140 c x y
    obtain ⟨dce, -⟩ := hC'.2.2.2.2 (6 + kr) (Or.inr ⟨by omega, by omega⟩)
    have d1 := zr_dwC (b := b) (I := I') hK hC' (a := 0) (e := i + 1) hm hkr hp h140' (by decide) (by omega)
    have d1 : f_X10_dearestWithin 1 (nI m) (zE_h b + (21 + 2 * (6 + kr))) 0 (nI (i + 1)) I' (zE_R b) = _ := d1
    have d2 := zr_dwC (b := b) (I := I') hK hC' (a := i + 1) (e := (H.D (6 + kr)).w) hm hkr hp h140' (by omega) w2
    rw [zr_li_w hK hkr] at d2
    have eX : zr_xs H m kr p (i + 1) = zr_nx H m kr p (zr_xs H m kr p i) (i + 1) := rfl
    have keep : ∀ v, j_X10_two_207_58 1 (nI m) (zE_h b + (21 + 2 * (6 + kr))) v (nI (i + 1)) I' (zE_R b) = some (.inl (v, nI (i + 2), I')) := by
      intro v
      unfold j_X10_two_207_58
      simp only [zw_let_e, nI_1]
    have same : zr_xs H m kr p (i + 1) = zr_xs H m kr p i → (∃ t, some (Sum.inl (β := Int32 × zI) (zr_xv p (zr_xs H m kr p i), nI (i + 2), I')) = some (.inl t) ∧ ∃ I', t = (zr_xv p (zr_xs H m kr p (i + 1)), nI (i + 1 + 1), I') ∧ (∀ a, a ≠ 141 → I' a = I a) ∧ ((zr_xs H m kr p (i + 1) = none ∧ ∀ j, j < 7 → I' 141 j = -1) ∨ ∃ x, zr_xs H m kr p (i + 1) = some x ∧ ∀ j, j < 7 → I' 141 j = zr_l7 H kr x j)) := by
      intro h
      rw [h]
      exact ⟨_, rfl, I', rfl, f1, f2⟩
    unfold s_X10_two_58
    simp only [(zq_drk b b (6 + kr) (by omega)).1, zE_gC, zE_rC b, zE_sC, zw_g_t, dce.w, if_neg (nI_ge (show i + 1 < (H.D (6 + kr)).w by omega) (by omega)), d1, d2, Option.bind_some, keep]
    cases hl : zr_bd (zr_li H m kr 0 (i + 1)) p H.nc with
    | none =>
      rw [if_pos (show zr_o1 none = -1 from rfl)]
      refine Or.inl (same ?_)
      rw [eX]
      unfold zr_nx
      rw [hl]
    | some l =>
      obtain ⟨l1, l2, -⟩ := zr_bd_some hl
      rw [if_neg (show ¬ zr_o1 (some l) = -1 from zq_nm1 (by omega))]
      cases hr : zr_bd (zr_li H m kr (i + 1) 12) p H.nc with
      | none =>
        rw [if_pos (show zr_o1 none = -1 from rfl)]
        refine Or.inl (same ?_)
        rw [eX]
        unfold zr_nx
        rw [hl, hr]
      | some r =>
        obtain ⟨r1, r2, -⟩ := zr_bd_some hr
        rw [if_neg (show ¬ zr_o1 (some r) = -1 from zq_nm1 (by omega))]
        have tl : zr_T m l = true := by
          unfold zr_li at l2
          rw [Bool.and_eq_true] at l2
          exact l2.1
        have tr : zr_T m r = true := by
          unfold zr_li at r2
          rw [Bool.and_eq_true] at r2
          exact r2.1
        have pl := hp l
        have pr := hp r
        simp only [zr_o1, zE_in (show l < 6 by omega) (by decide), zE_cl (show l < 2 ^ 31 by omega), zE_in (show r < 6 by omega) (by decide), zE_cl (show r < 2 ^ 31 by omega), zw_g_t, h140' l l1 tl, h140' r r1 tr, nI_add]
        have eN : zr_xs H m kr p (i + 1) = if ((p l + p r : Nat) : Int) ≤ zr_xi p (zr_xs H m kr p i) then zr_xs H m kr p i else some (i + 1, l, r) := by
          rw [eX]
          unfold zr_nx
          rw [hl, hr]
        by_cases hc : ((p l + p r : Nat) : Int) ≤ zr_xi p (zr_xs H m kr p i)
        · rw [if_pos ((zr_xv_le hp _ (by omega)).mpr hc)]
          rw [if_pos hc] at eN
          exact Or.inl (same eN)
        · rw [if_neg (fun q => hc ((zr_xv_le hp _ (by omega)).mp q))]
          rw [if_neg hc] at eN
          obtain ⟨q1, q2, q3, q4, q5, q6⟩ := zq_refC b (j := l) (by omega)
          obtain ⟨-, -, t3, -, -, -⟩ := zq_refC b (j := r) (by omega)
          -- the left one
          obtain ⟨I3, e3⟩ : ∃ I3, I3 = zw_u I' 141 0 (nI (i + 1)) := ⟨_, rfl⟩
          have f3 : ∀ a, a ≠ 141 → I3 a = I' a := fun a ha => by rw [e3, zw_u_off _ _ _ ha]
          have hC3 : zq_HC b I3 H := zq_HC_tr hK hC' (fun a a1 a2 => f3 a (by omega))
          obtain ⟨dcl, dxl⟩ := hC3.2.2.2.2 l (Or.inl l1)
          obtain ⟨dce3, -⟩ := hC3.2.2.2.2 (6 + kr) (Or.inr ⟨by omega, by omega⟩)
          have fl := zq_firstC (b := b) (I := I3) (zq_drk b b l (by omega)) (zq_drk b b (6 + kr) (by omega)) (hK.2.2.2.2 l (Or.inl l1)) okr dcl dxl dce3 (a := 0) (c := i + 1) (by decide) (by omega)
          have fl : f_X10_firstPlace (zE_h b + (21 + 2 * l)) (zE_h b + (21 + 2 * (6 + kr))) 0 (nI (i + 1)) I3 (zE_R b) = _ := fl
          obtain ⟨vl, el⟩ : ∃ vl, vl = zq_fp (H.D l) (H.D (6 + kr)) 0 (i + 1) := ⟨_, rfl⟩
          rw [← el] at fl
          obtain ⟨I4, e4⟩ : ∃ I4, I4 = zw_u (zw_u (zw_u I3 141 1 (nI l)) 141 2 (vl - vl / 12 * 12)) 141 3 (vl / 12) := ⟨_, rfl⟩
          have f4 : ∀ a, a ≠ 141 → I4 a = I3 a := fun a ha => by rw [e4, zw_u_off _ _ _ ha, zw_u_off _ _ _ ha, zw_u_off _ _ _ ha]
          have hC4 : zq_HC b I4 H := zq_HC_tr hK hC3 (fun a a1 a2 => f4 a (by omega))
          obtain ⟨dcr, dxr⟩ := hC4.2.2.2.2 r (Or.inl r1)
          obtain ⟨dce4, -⟩ := hC4.2.2.2.2 (6 + kr) (Or.inr ⟨by omega, by omega⟩)
          have fr := zq_firstC (b := b) (I := I4) (zq_drk b b r (by omega)) (zq_drk b b (6 + kr) (by omega)) (hK.2.2.2.2 r (Or.inl r1)) okr dcr dxr dce4 (a := i + 1) (c := (H.D (6 + kr)).w) (by omega) w2
          rw [zq_fp_w (hK.2.2.2.2 r (Or.inl r1)) okr] at fr
          obtain ⟨vr, er⟩ : ∃ vr, vr = zq_fp (H.D r) (H.D (6 + kr)) (i + 1) 12 := ⟨_, rfl⟩
          rw [← er] at fr
          unfold j_X10_two_207_58
          simp only [q1, q2, q3, q4, q5, q6, t3, zw_let_e, show zw_in 0 7 = true by decide, show Int32.toNatClampNeg 0 = 0 by decide, zw_g_t, ← e3, zE_in (show l < 6 by omega) (by decide), zE_cl (show l < 2 ^ 31 by omega), zE_in (show r < 6 by omega) (by decide), zE_cl (show r < 2 ^ 31 by omega), (zE_sHdr b l (by omega)).2, (zE_sHdr b r (by omega)).2, fl, Option.bind_some, zr_lay1, ← e4, dce4.w, fr, zr_lay4, nI_1]
          rw [eN]
          refine Or.inl ⟨_, rfl, _, rfl, fun a ha => by rw [zw_u_off _ _ _ ha, zw_u_off _ _ _ ha, zw_u_off _ _ _ ha, f4 a ha, f3 a ha, f1 a ha], Or.inr ⟨_, rfl, fun j hj => ?_⟩⟩
          unfold zr_l7
          dsimp only
          rw [← el, ← er]
          rcases (show j = 0 ∨ j = 1 ∨ j = 2 ∨ j = 3 ∨ j = 4 ∨ j = 5 ∨ j = 6 by omega) with rfl | rfl | rfl | rfl | rfl | rfl | rfl
          · rw [zE_u2 _ _ (by omega), zE_u2 _ _ (by omega), zE_u2 _ _ (by omega), e4, zE_u2 _ _ (by omega), zE_u2 _ _ (by omega), zE_u2 _ _ (by omega), e3, zE_u1]; rfl
          · rw [zE_u2 _ _ (by omega), zE_u2 _ _ (by omega), zE_u2 _ _ (by omega), e4, zE_u2 _ _ (by omega), zE_u2 _ _ (by omega), zE_u1]; rfl
          · rw [zE_u2 _ _ (by omega), zE_u2 _ _ (by omega), zE_u2 _ _ (by omega), e4, zE_u2 _ _ (by omega), zE_u1]; rfl
          · rw [zE_u2 _ _ (by omega), zE_u2 _ _ (by omega), zE_u2 _ _ (by omega), e4, zE_u1]; rfl
          · rw [zE_u2 _ _ (by omega), zE_u2 _ _ (by omega), zE_u1]; rfl
          · rw [zE_u2 _ _ (by omega), zE_u1]; rfl
          · rw [zE_u1]; rfl
  · rintro s ⟨I', rfl, f1, f2⟩
    have hC' : zq_HC b I' H := zq_HC_tr hK hC (fun a a1 a2 => f1 a (by omega))
    obtain ⟨dce, -⟩ := hC'.2.2.2.2 (6 + kr) (Or.inr ⟨by omega, by omega⟩)
    unfold s_X10_two_58
    simp only [(zq_drk b b (6 + kr) (by omega)).1, zw_g_t, dce.w, if_pos (nI_le (show (H.D (6 + kr)).w ≤ (H.D (6 + kr)).w - 1 + 1 by omega) (by omega))]
    exact ⟨_, rfl, I', rfl, f1, f2⟩
/-- the model's pairs at one saw, those behind (c, d) not yet looked at -/
def zr_do (c d x y : Nat) : Prop := x < c ∨ (x = c ∧ y < d)
def zr_In (T U : Nat → Bool) (p : Nat → Nat) (n saw : Nat) (X : zr_X) (c d : Nat) (Y : zr_X) : Prop :=
  (Y = X ∧ ∀ x y, zr_do c d x y → x < n → y < n → T x = true → U y = true → ((p x + p y : Nat) : Int) ≤ zr_xi p X) ∨
  (∃ x y, Y = some (saw, x, y) ∧ zr_do c d x y ∧ x < n ∧ y < n ∧ T x = true ∧ U y = true ∧ zr_xi p X < ((p x + p y : Nat) : Int) ∧ ∀ x2 y2, zr_do c d x2 y2 → x2 < n → y2 < n → T x2 = true → U y2 = true → p x2 + p y2 ≤ p x + p y ∧ (zr_do x y x2 y2 → p x2 + p y2 < p x + p y))
def zr_st2 (T U : Nat → Bool) (p : Nat → Nat) (saw c d : Nat) (Y : zr_X) : zr_X := if T c = true ∧ U d = true ∧ zr_xi p Y < ((p c + p d : Nat) : Int) then some (saw, c, d) else Y
theorem zr_In_st {T U : Nat → Bool} {p : Nat → Nat} {n saw : Nat} {X Y : zr_X} {c d : Nat} (hc : c < n) (hd : d < n) (h : zr_In T U p n saw X c d Y) : zr_In T U p n saw X c (d + 1) (zr_st2 T U p saw c d Y) := by
  unfold zr_st2
  have dn : ∀ x y, zr_do c (d + 1) x y → zr_do c d x y ∨ (x = c ∧ y = d) := fun x y q => by unfold zr_do at q ⊢; omega
  have up : ∀ x y, zr_do c d x y → zr_do c (d + 1) x y := fun x y q => by unfold zr_do at q ⊢; omega
  by_cases hu : T c = true ∧ U d = true ∧ zr_xi p Y < ((p c + p d : Nat) : Int)
  · rw [if_pos hu]
    obtain ⟨u1, u2, u3⟩ := hu
    refine Or.inr ⟨c, d, rfl, by unfold zr_do; omega, hc, hd, u1, u2, ?_, ?_⟩
    · rcases h with ⟨rfl, -⟩ | ⟨x, y, rfl, -, -, -, -, -, h6, -⟩
      · exact u3
      · have u3 : (p x : Int) + p y < ((p c + p d : Nat) : Int) := u3
        omega
    · intro x2 y2 q1 q2 q3 q4 q5
      rcases dn x2 y2 q1 with q1 | ⟨rfl, rfl⟩
      · rcases h with ⟨rfl, h2⟩ | ⟨x, y, rfl, -, -, -, -, -, h6, h7⟩
        · have := h2 x2 y2 q1 q2 q3 q4 q5
          exact ⟨by omega, fun _ => by omega⟩
        · have := (h7 x2 y2 q1 q2 q3 q4 q5).1
          have u3 : (p x : Int) + p y < ((p c + p d : Nat) : Int) := u3
          exact ⟨by omega, fun _ => by omega⟩
      · exact ⟨Nat.le_refl _, fun q => by unfold zr_do at q; omega⟩
  · rw [if_neg hu]
    rcases h with ⟨rfl, h2⟩ | ⟨x, y, rfl, h1, h2, h3, h4, h5, h6, h7⟩
    · refine Or.inl ⟨rfl, fun x2 y2 q1 q2 q3 q4 q5 => ?_⟩
      rcases dn x2 y2 q1 with q1 | ⟨rfl, rfl⟩
      · exact h2 x2 y2 q1 q2 q3 q4 q5
      · have : ¬ zr_xi p Y < ((p x2 + p y2 : Nat) : Int) := fun q => hu ⟨q4, q5, q⟩
        omega
    · refine Or.inr ⟨x, y, rfl, up x y h1, h2, h3, h4, h5, h6, fun x2 y2 q1 q2 q3 q4 q5 => ?_⟩
      rcases dn x2 y2 q1 with q1 | ⟨rfl, rfl⟩
      · exact h7 x2 y2 q1 q2 q3 q4 q5
      · have h8 : ¬ (p x : Int) + p y < ((p x2 + p y2 : Nat) : Int) := fun q => hu ⟨q4, q5, q⟩
        exact ⟨by omega, fun q => by unfold zr_do at q h1; omega⟩
theorem zr_In_row {T U : Nat → Bool} {p : Nat → Nat} {n saw : Nat} {X Y : zr_X} {c : Nat} (h : zr_In T U p n saw X c n Y) : zr_In T U p n saw X (c + 1) 0 Y := by
  have dn : ∀ x y, y < n → zr_do (c + 1) 0 x y → zr_do c n x y := fun x y hy q => by unfold zr_do at q ⊢; omega
  rcases h with ⟨rfl, h2⟩ | ⟨x, y, rfl, h1, h2, h3, h4, h5, h6, h7⟩
  · exact Or.inl ⟨rfl, fun x y q1 q2 q3 q4 q5 => h2 x y (dn x y q3 q1) q2 q3 q4 q5⟩
  · exact Or.inr ⟨x, y, rfl, by unfold zr_do at h1 ⊢; omega, h2, h3, h4, h5, h6, fun x2 y2 q1 q2 q3 q4 q5 => h7 x2 y2 (dn x2 y2 q3 q1) q2 q3 q4 q5⟩
/-- all pairs at a saw: the dearest left one and the dearest right one -/
theorem zr_In_end {T U : Nat → Bool} {p : Nat → Nat} {n saw : Nat} {X Y : zr_X} (h : zr_In T U p n saw X n 0 Y) : Y = match zr_bd T p n, zr_bd U p n with
    | some l, some r => if (p l + p r : Nat) ≤ zr_xi p X then X else some (saw, l, r)
    | _, _ => X := by
  have all : ∀ x y, x < n → zr_do n 0 x y := fun x y hx => Or.inl hx
  cases hl : zr_bd T p n with
  | none =>
    have h0 := zr_bd_none hl
    rcases h with ⟨h1, -⟩ | ⟨x, y, -, -, h2, -, h4, -⟩
    · exact h1
    · rw [h0 x h2] at h4; cases h4
  | some l =>
    obtain ⟨l1, l2, l3⟩ := zr_bd_some hl
    cases hr : zr_bd U p n with
    | none =>
      have h0 := zr_bd_none hr
      rcases h with ⟨h1, -⟩ | ⟨x, y, -, -, -, h3, -, h5, -⟩
      · exact h1
      · rw [h0 y h3] at h5; cases h5
    | some r =>
      obtain ⟨r1, r2, r3⟩ := zr_bd_some hr
      dsimp only
      rcases h with ⟨rfl, h2⟩ | ⟨x, y, rfl, h1, h2, h3, h4, h5, h6, h7⟩
      · rw [if_pos (h2 l r (all l r l1) l1 r1 l2 r2)]
      · have a1 := l3 x h2 h4
        have a2 := r3 y h3 h5
        have a3 := h7 l r (all l r l1) l1 r1 l2 r2
        rw [if_neg (by omega)]
        have e1 : x = l := by
          rcases Nat.lt_trichotomy x l with q | q | q
          · have := a1.2 q; omega
          · exact q
          · have := a3.2 (Or.inl q); omega
        subst e1
        have e2 : y = r := by
          rcases Nat.lt_trichotomy y r with q | q | q
          · have := a2.2 q; omega
          · exact q
          · have := a3.2 (Or.inr ⟨rfl, q⟩); omega
        rw [e2]
