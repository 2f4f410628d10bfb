/-! ===== the relation, and read ===== -/
def zX_QM (lv : Bool) (I : zI) (Q : zr_Q) : Prop := I 167 (zq_lv lv) = nI Q.1 ∧ I 168 (zq_lv lv) = nI Q.2.1 ∧ ∀ k, zr_has Q k → ∃ m l, m ≤ 520 * (zq_lv lv + 1) ∧ l ≤ 200 * (zq_lv lv + 1) ∧ zx_rm (zq_lv lv) I m l (16 * zq_lv lv + k) (Q.2.2.1 k) (Q.2.2.2 k)
theorem zX_QM_r {lv : Bool} {I : zI} {Q : zr_Q} (h : zX_QM lv I Q) : zr_QM lv I Q := by
  have hl := zq_lv1 lv
  refine ⟨h.1, h.2.1, fun k hk => ?_⟩
  obtain ⟨m, l, h1, h2, f, l0, q1, q2, q3, q4, q5, q6, q7, q8⟩ := h.2.2 k hk
  exact ⟨f, l0, q1, q2, by omega, q4, q5, q6, by omega, q8 I (zx_cl_eq (fun _ _ _ => rfl))⟩
theorem zX_QM_tr {lv : Bool} {I I2 : zI} {Q : zr_Q} (h : zX_QM lv I Q) (f : ∀ a, 167 ≤ a → a ≤ 180 → I2 a = I a) : zX_QM lv I2 Q := by
  refine ⟨by rw [f 167 (by decide) (by decide)]; exact h.1, by rw [f 168 (by decide) (by decide)]; exact h.2.1, fun k hk => ?_⟩
  obtain ⟨m, l, h1, h2, h3⟩ := h.2.2 k hk
  exact ⟨m, l, h1, h2, zx_rm_tr h3 (fun a x1 x2 => by rw [f a (by omega) (by omega)]) (zx_cl_eq (fun a x1 x2 => f a (by omega) x2)) (Nat.le_refl _) (Nat.le_refl _)⟩
/-- the side in use stands -/
def zX_o2 (lv : Bool) (I2 I : zI) : Prop := ∀ a i, 156 ≤ a → a ≤ 180 → zq_lv lv * zx_W a ≤ i → i < (zq_lv lv + 1) * zx_W a → I2 a i = I a i
theorem zX_QM_o {lv : Bool} {I I2 : zI} {Q : zr_Q} (hQ : zr_QK Q) (h : zX_QM lv I Q) (o : zX_o2 lv I2 I) : zX_QM lv I2 Q := by
  have lw := zx_lv16 (b := lv) (W := 1) (k := 0) (by decide)
  refine ⟨by rw [o 167 _ (by decide) (by decide) (by show zq_lv lv * 1 ≤ zq_lv lv; omega) (by show zq_lv lv < (zq_lv lv + 1) * 1; omega)]; exact h.1, by rw [o 168 _ (by decide) (by decide) (by show zq_lv lv * 1 ≤ zq_lv lv; omega) (by show zq_lv lv < (zq_lv lv + 1) * 1; omega)]; exact h.2.1, fun k hk => ?_⟩
  obtain ⟨m, l, h1, h2, h3⟩ := h.2.2 k hk
  have k16 := zr_has16 hQ hk
  refine ⟨m, l, h1, h2, zx_rm_tr h3 (fun a x1 x2 => ?_) ⟨fun i i1 i2 => ⟨?_, ?_⟩, fun a i x1 x2 i1 i2 => ?_⟩ (Nat.le_refl _) (Nat.le_refl _)⟩
  · have w := zx_Wr x1 x2
    have l6 := zx_lv16 (b := lv) (W := 16) k16
    exact o a _ (by omega) (by omega) (by rw [w]; exact l6.1) (by rw [w]; exact l6.2)
  · exact o 179 i (by decide) (by decide) (by show zq_lv lv * 520 ≤ i; omega) (by show i < (zq_lv lv + 1) * 520; omega)
  · exact o 180 i (by decide) (by decide) (by show zq_lv lv * 520 ≤ i; omega) (by show i < (zq_lv lv + 1) * 520; omega)
  · have w : zx_W a = 200 := by
      unfold zx_W
      rw [if_neg (by omega), if_neg (by omega), if_neg (by omega), if_neg (by omega), if_neg (by omega), if_pos ⟨x1, x2⟩]
    exact o a i (by omega) (by omega) (by rw [w]; omega) (by rw [w]; omega)
theorem zX_HM_o {lv : Bool} {I I2 : zI} {H : zq_H} (hK : zq_HK H) (h : zq_HM lv I H) (o : zX_o2 lv I2 I) (h18 : I2 148 18 = I 148 18) : zq_HM lv I2 H := by
  obtain ⟨a1, a2, a3, a4, a5, a6⟩ := h
  have one : ∀ a, 156 ≤ a → a ≤ 180 → zx_W a = 1 → I2 a (zq_lv lv) = I a (zq_lv lv) := fun a x1 x2 w => o a _ x1 x2 (by rw [w]; omega) (by rw [w]; omega)
  refine ⟨h18.trans a1, (one 158 (by decide) (by decide) rfl).trans a2, (one 162 (by decide) (by decide) rfl).trans a3, (one 163 (by decide) (by decide) rfl).trans a4, fun k hk => ⟨fun c hc => ?_, ?_⟩, fun k hk => ?_⟩
  · have h4 := hK.1
    rw [o 159 _ (by decide) (by decide) (by show zq_lv lv * 16 ≤ _; omega) (by show _ < (zq_lv lv + 1) * 16; omega), o 160 _ (by decide) (by decide) (by show zq_lv lv * 16 ≤ _; omega) (by show _ < (zq_lv lv + 1) * 16; omega)]
    exact (a5 k hk).1 c hc
  · have h4 := hK.1
    rw [o 161 _ (by decide) (by decide) (by show zq_lv lv * 4 ≤ _; omega) (by show _ < (zq_lv lv + 1) * 4; omega)]
    exact (a5 k hk).2
  · have k10 := zq_has10 hK hk
    have ok := hK.2.2.2.2 k hk
    have w2 := ok.w2
    have t2 := ok.t2
    obtain ⟨d1, d2, d3⟩ := a6 k hk
    refine ⟨?_, ?_, fun x y hx hy => ?_⟩
    · rw [o 164 _ (by decide) (by decide) (by show zq_lv lv * 10 ≤ _; omega) (by show _ < (zq_lv lv + 1) * 10; omega)]; exact d1
    · rw [o 165 _ (by decide) (by decide) (by show zq_lv lv * 10 ≤ _; omega) (by show _ < (zq_lv lv + 1) * 10; omega)]; exact d2
    · rw [o 166 _ (by decide) (by decide) (by show zq_lv lv * 1440 ≤ _; omega) (by show _ < (zq_lv lv + 1) * 1440; omega)]; exact d3 x y hx hy
theorem zX_HC_o {sw : Bool} {I I2 : zI} {H : zq_H} (hK : zq_HK H) (h : zq_HC sw I H) (f : ∀ a, zE_h sw ≤ a → a ≤ zE_h sw + 56 → I2 a = I a) : zq_HC sw I2 H := by
  have h2 : zx_HC sw I H := ⟨h.1, h.2.1, h.2.2.1, h.2.2.2.1, fun k hk _ => h.2.2.2.2 k hk⟩
  exact zx_HC_full hK (zx_HC_tr hK.1 hK.2.1 hK.2.2.1 h2 (fun a x1 x2 => f a (by omega) (by omega)) (by rw [f _ (Nat.le_refl _) (by omega)]) (by rw [f _ (Nat.le_refl _) (by omega)]) (by rw [f _ (Nat.le_refl _) (by omega)]))
theorem zX_QC_o {sw : Bool} {I I2 : zI} {Q : zr_Q} (hQ : zr_QK Q) (h : zr_QC sw I Q) (f : ∀ a, zE_h sw ≤ a → a ≤ zE_h sw + 56 → I2 a = I a) : zr_QC sw I2 Q := by
  obtain ⟨q1, q2, cl, q3, q4, q5⟩ := h
  refine ⟨by rw [f _ (Nat.le_refl _) (by omega)]; exact q1, by rw [f _ (Nat.le_refl _) (by omega)]; exact q2, cl, q3, by rw [f _ (Nat.le_refl _) (by omega)]; exact q4, fun k hk => ?_⟩
  have k16 := zr_has16 hQ hk
  exact zx_RC_tr (q5 k hk) (f _ (by omega) (by omega)) (fun i _ => by rw [f (zE_h sw + 7) (by omega) (by omega), f (zE_h sw + 8) (by omega) (by omega)]; exact ⟨rfl, rfl⟩) (Nat.le_refl _)
theorem zX_dis {sw : Bool} {a : Nat} (h1 : zE_h sw ≤ a) (h2 : a ≤ zE_h sw + 56) : ¬ (zE_h (!sw) ≤ a ∧ a ≤ zE_h (!sw) + 56) := by
  have e1 : zE_h true = 8 := rfl
  have e2 : zE_h false = 65 := rfl
  cases sw
  · show ¬ (zE_h true ≤ a ∧ a ≤ zE_h true + 56)
    omega
  · show ¬ (zE_h false ≤ a ∧ a ≤ zE_h false + 56)
    omega
/-- what holds between calls -/
def zX_C (sw : Bool) (I : zI) (J : zJ) (H : zq_H) (Q : zr_Q) (nt : Nat) : Prop := zE_T I ∧ I 7 1 = I 148 17 ∧ zE_Y I ∧ zE_S I ∧ zE_L I ∧ zq_TE I nt H ∧ zq_HK H ∧ zq_HC sw I H ∧ zq_HM sw I H ∧ zr_QK Q ∧ zr_QC sw I Q ∧ zX_QM sw I Q ∧ zq_TL I ∧ zq_CB I H ∧ zt_KY J ∧ ∃ p, p ≤ 2000 ∧ I 148 16 = nI p
def zX_Rel (S : aS) : Prop := ∃ sw H Q nt, S.2.1 = zE_R sw ∧ zX_C sw S.1 S.2.2 H Q nt
theorem zX_Y_tr {I I2 : zI} (h : zE_Y I) (h1 : I2 1 4 = I 1 4) (h2 : I2 148 61 = I 148 61) (h3 : I2 122 = I 122) (h4 : I2 148 62 = I 148 62) (h5 : I2 123 = I 123) (h6 : I2 187 = I 187) (h7 : I2 124 = I 124) (h8 : I2 188 = I 188) : zE_Y I2 := by
  unfold zE_Y
  rw [h1, h2, h3, h4, h5, h6, h7, h8]
  exact h
theorem zX_S_tr {I I2 : zI} (h : zE_S I) (h1 : I2 1 6 = I 1 6) (h2 : I2 148 65 = I 148 65) (h3 : I2 126 = I 126) (h4 : I2 148 66 = I 148 66) (h5 : I2 131 = I 131) (h6 : I2 191 = I 191) (h7 : I2 127 = I 127) (h8 : I2 190 = I 190) (h9 : I2 189 = I 189) : zE_S I2 := by
  unfold zE_S
  rw [h1, h2, h3, h4, h5, h6, h7, h8, h9]
  exact h
theorem zX_L_tr {I I2 : zI} (h : zE_L I) (h1 : I2 148 70 = I 148 70) (h2 : I2 141 = I 141) (h3 : I2 192 = I 192) : zE_L I2 := by
  unfold zE_L
  rw [h1, h2, h3]
  exact h
theorem zX_T_tr {I I2 : zI} (h : zE_T I) (h1 : I2 2 = I 2) (h2 : I2 148 2 = I 148 2) (h3 : I2 3 = I 3) (h4 : I2 149 = I 149) : zE_T I2 := by
  unfold zE_T
  rw [h1, h2, h3, h4]
  exact h
theorem zX_CB_tr {I I2 : zI} {H : zq_H} (h : zq_CB I H) (h1 : I2 147 = I 147) : zq_CB I2 H := by
  unfold zq_CB
  rw [h1]
  exact h
theorem zX_read : zE_read zX_Rel := by
  rintro I R J ⟨sw, H, Q, nt, hR, hC⟩
  have hR : R = zE_R sw := hR
  subst hR
  have hC : zX_C sw I J H Q nt := hC
  obtain ⟨hT, h7, hY, hS, hL, hTE, hK, hHC, hHM, hQK, hQC, hQM, hTL, hCB, hKY, p, p1, p2⟩ := hC
  have hb := zE_hb (!sw)
  obtain ⟨n, n1, n2, n3, n4⟩ := hT
  obtain ⟨T, eT⟩ : ∃ T : Nat → Nat, T = fun j => (I 3 j).toBitVec.toNat % 2 ^ 8 := ⟨_, rfl⟩
  have hb8 : ∀ j, I 3 j &&& 255 = nI (T j) ∧ T j < 256 := fun j => by
    rw [eT]
    exact ⟨pk_and (I 3 j) 8 (by decide), Nat.mod_lt _ (by decide)⟩
  have hTC : zt_TC I T n := ⟨n1, n2, fun j _ => hb8 j⟩
  obtain ⟨I1, J1, sw1, c1, c2, c3⟩ := zX_readC (sw := sw) (J := J) hTC
  have hi : ∀ a, 148 ≤ a → I1 a = I a := by
    intro a ha
    rcases c3 with ⟨-, -, oC⟩ | ⟨-, x, I0, -, -, oC, -, -, ff, -⟩
    · exact oC.1 a (by omega) (by omega) (by omega) (by omega) (by omega) (by omega)
    · rw [ff a (by omega) (by omega) (by omega) (by omega)]
      exact oC.1 a (by omega) (by omega) (by omega) (by omega) (by omega) (by omega)
  have hj : ∀ a, 148 ≤ a → J1 a = J a := by
    intro a ha
    rcases c3 with ⟨-, -, oC⟩ | ⟨-, x, I0, -, -, oC, -⟩
    · exact oC.2.2 a (by omega) (by omega) (by omega) (by omega)
    · exact oC.2.2 a (by omega) (by omega) (by omega) (by omega)
  obtain ⟨I2, J2, m1, m2, m3, m4, m5, m6, m7⟩ := zX_readM (sw := sw1) (lv := sw) (I := I1) (J := J1) (T := T) (n := n) n1 (by rw [hi 148 (by decide)]; exact n3) (fun j hj2 => by rw [hi 149 (by decide), ← n4 j hj2]; exact hb8 j) (by rw [hi 148 (by decide)]; exact hHM.1) ⟨p, p1, by rw [hi 148 (by decide)]; exact p2⟩ (fun k hk => by rw [hj 155 (by decide)]; exact hKY k hk)
  have f12 : ∀ a, a < 148 ∨ 181 < a → I2 a = I1 a := fun a ha => m6.1 a (by omega) (by omega) (by omega)
  have hhi : ∀ a, 181 < a → I2 a = I a := fun a ha => (f12 a (Or.inr ha)).trans (hi a (by omega))
  have e8 : ∀ y, I1 148 y = I 148 y := fun y => by rw [hi 148 (by decide)]
  have h7' : I2 7 1 = I2 148 17 := by rw [f12 7 (by omega), c2, m2]
  have oM : zX_o2 sw I2 I := fun a i x1 x2 x3 x4 => (m6.2 a i x1 x2 x3 x4).trans (by rw [hi a (by omega)])
  refine ⟨_, I1, zE_R sw1, J1, I2, J2, c1, m1, ?_⟩
  rcases c3 with ⟨rfl, bad, oC⟩ | ⟨rfl, x, I0, gx, gq, oC, hc, hq, ff, z4, z6, zy, z142, z141, z147⟩
  · rcases m7 with ⟨-, mf⟩ | ⟨x, m, l, gx, gq, -⟩
    · have lo : ∀ a, a ≠ 0 → a ≠ 2 → a ≠ 4 → a ≠ 5 → a ≠ 7 → a < 148 → ¬ (zE_h (!sw1) ≤ a ∧ a ≤ zE_h (!sw1) + 56) → I2 a = I a := fun a y0 y1 y2 y3 y4 y5 y6 => (f12 a (Or.inl y5)).trans (oC.1 a y0 y1 y2 y3 y4 y6)
      have hf : ∀ y, ¬ zX_fd y → I2 148 y = I 148 y := fun y hy => (mf y hy).trans (e8 y)
      have nf : ∀ y, 45 ≤ y → y ≠ 48 → ¬ zX_fd y := fun y y1 y2 => by unfold zX_fd zx_fd; omega
      have hs := zE_hb sw1
      have n18 : ¬ zX_fd 18 := by unfold zX_fd zx_fd; omega
      refine ⟨sw1, H, Q, nt, rfl, (?_ : zX_C sw1 I2 J2 H Q nt)⟩
      refine ⟨⟨0, by omega, ?_, m3, fun j hj2 => absurd hj2 (Nat.not_lt_zero _)⟩, h7', ?_, ?_, ?_, ?_, hK, ?_, ?_, hQK, ?_, ?_, ?_, ?_, m5, m4⟩
      · show I2 2 1 = nI 0
        rw [f12 2 (by omega)]; exact oC.2.1
      · exact zX_Y_tr hY (by rw [lo 1 (by omega) (by omega) (by omega) (by omega) (by omega) (by omega) (by omega)]) (hf 61 (nf 61 (by omega) (by omega))) (lo 122 (by omega) (by omega) (by omega) (by omega) (by omega) (by omega) (by omega)) (hf 62 (nf 62 (by omega) (by omega))) (lo 123 (by omega) (by omega) (by omega) (by omega) (by omega) (by omega) (by omega)) (hhi 187 (by omega)) (lo 124 (by omega) (by omega) (by omega) (by omega) (by omega) (by omega) (by omega)) (hhi 188 (by omega))
      · exact zX_S_tr hS (by rw [lo 1 (by omega) (by omega) (by omega) (by omega) (by omega) (by omega) (by omega)]) (hf 65 (nf 65 (by omega) (by omega))) (lo 126 (by omega) (by omega) (by omega) (by omega) (by omega) (by omega) (by omega)) (hf 66 (nf 66 (by omega) (by omega))) (lo 131 (by omega) (by omega) (by omega) (by omega) (by omega) (by omega) (by omega)) (hhi 191 (by omega)) (lo 127 (by omega) (by omega) (by omega) (by omega) (by omega) (by omega) (by omega)) (hhi 190 (by omega)) (hhi 189 (by omega))
      · exact zX_L_tr hL (hf 70 (nf 70 (by omega) (by omega))) (lo 141 (by omega) (by omega) (by omega) (by omega) (by omega) (by omega) (by omega)) (hhi 192 (by omega))
      · exact zq_TE_tr hTE (fun a y1 y2 => lo a (by omega) (by omega) (by omega) (by omega) (by omega) (by omega) (by omega)) (fun a y1 y2 => hhi a (by omega)) (hf 75 (nf 75 (by omega) (by omega)))
      · exact zX_HC_o hK hHC (fun a y1 y2 => lo a (by omega) (by omega) (by omega) (by omega) (by omega) (by omega) (zX_dis y1 y2))
      · exact zX_HM_o hK hHM oM (hf 18 n18)
      · exact zX_QC_o hQK hQC (fun a y1 y2 => lo a (by omega) (by omega) (by omega) (by omega) (by omega) (by omega) (zX_dis y1 y2))
      · exact zX_QM_o hQK hQM oM
      · exact zq_TL_tr hTL (lo 132 (by omega) (by omega) (by omega) (by omega) (by omega) (by omega) (by omega))
      · exact zX_CB_tr hCB (lo 147 (by omega) (by omega) (by omega) (by omega) (by omega) (by omega) (by omega))
    · exact absurd gq (bad x gx)
  · rcases m7 with ⟨bad, -⟩ | ⟨x', m, l, gx', gq', mf, m18, m61, m65, m70, m75, mm, ml, mk, k158, k162, k163, k167, k168⟩
    · exact absurd gq (bad x gx)
    · have ex : x' = x := by rw [gx] at gx'; cases gx'; rfl
      subst ex
      have ok := zx_text_ok (T := T) (n := n) 501 0 zx_s0 (zx_P0 T n) (by omega)
      rw [gx] at ok
      obtain ⟨hK2, hQ2⟩ := ok.1.2.2.2.2.2.2.2.2.2.2 gq
      have lo : ∀ a, a ≠ 0 → a ≠ 1 → a ≠ 2 → a ≠ 4 → a ≠ 5 → a ≠ 7 → a ≠ 141 → a ≠ 142 → a ≠ 147 → a < 148 → ¬ (zE_h (!sw) ≤ a ∧ a ≤ zE_h (!sw) + 56) → I2 a = I a := fun a y0 y00 y1 y2 y3 y4 y7 y8 y9 y5 y6 => ((f12 a (Or.inl y5)).trans (ff a y00 y7 y8 y9)).trans (oC.1 a y0 y1 y2 y3 y4 y6)
      refine ⟨!sw, x'.2.1, x'.2.2.1, 0, rfl, (?_ : zX_C (!sw) I2 J2 x'.2.1 x'.2.2.1 0)⟩
      refine ⟨⟨0, by omega, ?_, m3, fun j hj2 => absurd hj2 (Nat.not_lt_zero _)⟩, h7', Or.inl ⟨?_, m61⟩, Or.inl ⟨?_, m65⟩, Or.inl ⟨m70, fun j hj2 => ?_⟩, ⟨by omega, ?_, m75, fun j hj2 => absurd hj2 (Nat.not_lt_zero _)⟩, hK2, ?_, ?_, hQ2, ?_, ?_, ?_, ?_, m5, m4⟩
      · show I2 2 1 = nI 0
        rw [f12 2 (by omega), ff 2 (by decide) (by decide) (by decide) (by decide)]; exact oC.2.1
      · rw [f12 1 (by omega)]; exact z4
      · rw [f12 1 (by omega)]; exact z6
      · rw [f12 141 (by omega)]; exact z141 j hj2
      · rw [f12 142 (by omega)]; exact z142
      · exact zq_HC_tr hK2 hc (fun a y1 y2 => f12 a (by omega))
      · exact ⟨m18, k158, k162, k163, mk.1, fun k hk => (mk.2.1 k hk).2⟩
      · exact zr_QC_tr hQ2 hq (fun a y1 y2 => f12 a (by omega))
      · exact ⟨k167, k168, fun k hk => ⟨m, l, mm, ml, mk.2.2 k hk⟩⟩
      · exact zq_TL_tr hTL (lo 132 (by omega) (by omega) (by omega) (by omega) (by omega) (by omega) (by omega) (by omega) (by omega) (by omega) (by omega))
      · intro c s co h1 h2 h3
        left
        have w1 := hK2.1
        have w2 := hK2.2.1
        rw [f12 147 (by omega)]
        exact z147 _ (by omega)
