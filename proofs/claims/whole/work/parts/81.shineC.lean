/-! ===== the class's SHINE ===== -/
def zq_sn (sw : Bool) (o : Nat) : Prop := zw_gc o 6 = true ∧ zE_R sw o 0 = o + 1 ∧ zE_R sw o 1 = o + 2 ∧ zw_gc (o + 1) 13 = true ∧ zw_SH (o + 1) = (13, 9) ∧ zq_li sw (o + 2)
theorem zq_sn1 (sw : Bool) : zq_sn sw 126 := ⟨zE_gC.2.2.2.2.2.2.2.2.2.2.2.1, (zE_rC sw).2.2.2.2.2.2.2.2.2.2.2.2.2.2.2.2.2.1, (zE_rC sw).2.2.2.2.2.2.2.2.2.2.2.2.2.2.2.2.2.2.1, by show zw_gc 127 13 = true; simp only [zE_gC], by show zw_SH 127 = (13, 9); simp only [zE_sC], zq_li2 sw⟩
theorem zq_sn2 (sw : Bool) : zq_sn sw 132 := ⟨by show zw_gc 132 6 = true; simp only [zE_gC], by show zE_R sw 132 0 = 133; simp only [zE_rC sw], by show zE_R sw 132 1 = 134; simp only [zE_rC sw], by show zw_gc 133 13 = true; simp only [zE_gC], by show zw_SH 133 = (13, 9); simp only [zE_sC], zq_li3 sw⟩
theorem zq_darkC {sw : Bool} {I : zI} {o cu : Nat} {d : zq_D} {s : Nat → Int32} (hsn : zq_sn sw o) (hcu : zq_dr sw cu) (ok : zq_ok d) (hw : I o 2 = nI d.w) (hs : ∀ j, j < 12 → I (o + 5) j = s (8 + j)) (hx : ∀ x, x < 12 → ((I cu 4 >>> (nI x &&& 31)) &&& 1 = 1 ↔ ∃ y, x < d.w ∧ y < d.t ∧ d.c x y ≠ 0)) : f_X6_darkColumns o cu I (zE_R sw) = some (nI (zq_dk d s (zq_mx s d.w) d.w)) := by
  have w2 := ok.w2
  obtain ⟨n1, n2, n3, n4, n5, g1, g2, g3, g4, g5, g6, g7, g8, g9, g10⟩ := hsn
  unfold f_X6_darkColumns
  have l1 := zE_forE (step := s_X6_darkColumns_4 o cu I (zE_R sw)) (fun i => (zq_mx s i, nI i)) (zq_mx s d.w) d.w (fun i hi => by
    unfold s_X6_darkColumns_4
    simp only [n1, n3, g1, g4, g7, g10, zw_g_t, zw_let_e, hw, zE_in (k := i) (n := 12) (by omega) (by decide), zE_cl (k := i) (by omega), nI_1]
    rw [if_neg (nI_ge hi (by omega)), show o + 2 + 3 = o + 5 from rfl, hs i (by omega)]
    rfl) (by
    unfold s_X6_darkColumns_4
    simp only [n1, zw_g_t, hw]
    exact if_pos (nI_le (Nat.le_refl _) (by omega))) (by omega)
  have l2 := zE_forE (step := s_X6_darkColumns_37 o cu (zq_mx s d.w) I (zE_R sw)) (fun i => (nI (zq_dk d s (zq_mx s d.w) i), nI i)) (nI (zq_dk d s (zq_mx s d.w) d.w)) d.w (fun i hi => by
    unfold s_X6_darkColumns_37 j_X6_darkColumns_78_37 f_X10_isTold
    simp only [n1, n3, g1, g4, g7, g10, hcu.1, zw_g_t, zw_let_e, hw, zE_in (k := i) (n := 12) (by omega) (by decide), zE_cl (k := i) (by omega), nI_1]
    rw [if_neg (nI_ge hi (by omega)), show o + 2 + 3 = o + 5 from rfl, hs i (by omega)]
    have hcc : zq_cc d i d.t = true ↔ ((I cu 4 >>> (nI i &&& 31)) &&& 1 = 1) := by
      rw [hx i (by omega), zq_cc_iff]
      exact ⟨fun ⟨y, a, b⟩ => ⟨y, hi, a, b⟩, fun ⟨y, _, a, b⟩ => ⟨y, a, b⟩⟩
    show _ = some (Sum.inl (nI (zq_dk d s (zq_mx s d.w) i + (if (zq_cc d i d.t = true ∧ ¬ zq_mx s d.w ≤ s (8 + i) * 10) then 1 else 0)), nI (i + 1)))
    by_cases c1 : zq_mx s d.w ≤ s (8 + i) * 10
    · rw [if_pos c1, if_neg (fun q => q.2 c1)]
      rfl
    · rw [if_neg c1]
      by_cases c2 : zq_cc d i d.t = true
      · rw [if_pos (show zq_cc d i d.t = true ∧ ¬ zq_mx s d.w ≤ s (8 + i) * 10 from ⟨c2, c1⟩), if_neg (show ¬ ¬ ((I cu 4 >>> (nI i &&& 31)) &&& 1) = 1 from fun q => q (hcc.mp c2)), Option.bind_some, if_neg zE_10]
      · rw [if_neg (show ¬ (zq_cc d i d.t = true ∧ ¬ zq_mx s d.w ≤ s (8 + i) * 10) from fun q => c2 q.1), if_pos (show ¬ ((I cu 4 >>> (nI i &&& 31)) &&& 1) = 1 from fun q => c2 (hcc.mpr q)), Option.bind_some, if_pos rfl]
        rfl) (by
    unfold s_X6_darkColumns_37
    simp only [n1, zw_g_t, hw]
    exact if_pos (nI_le (Nat.le_refl _) (by omega))) (by omega)
  rw [show ((0 : Int32), (0 : Int32)) = (zq_mx s 0, nI 0) from rfl, l1, Option.bind_some, show (zq_mx s 0, nI 0) = (nI (zq_dk d s (zq_mx s d.w) 0), nI 0) from rfl, l2]
  rfl
theorem zq_unevenC {sw : Bool} {I : zI} {o : Nat} {d : zq_D} {s : Nat → Int32} (hsn : zq_sn sw o) (ok : zq_ok d) (hw : I o 2 = nI d.w) (hs : ∀ j, j < 12 → I (o + 5) j = s (8 + j)) : f_X6_unevenness o I (zE_R sw) = some (zq_un d s (d.w / 2)) := by
  have w1 := ok.w1
  have w2 := ok.w2
  obtain ⟨n1, n2, n3, n4, n5, g1, g2, g3, g4, g5, g6, g7, g8, g9, g10⟩ := hsn
  have hd : nI d.w / 2 = nI (d.w / 2) := pk_div (d := 2) (by omega) (by decide) (by decide)
  unfold f_X6_unevenness
  have l1 := zE_forE (step := s_X6_unevenness_4 o I (zE_R sw)) (fun i => (zq_un d s i, nI i)) (zq_un d s (d.w / 2)) (d.w / 2) (fun i hi => by
    have e1 : nI d.w - 1 - nI i = nI (d.w - 1 - i) := by rw [show (1 : Int32) = nI 1 from rfl, pk_sub w1, pk_sub (by omega)]
    unfold s_X6_unevenness_4
    simp only [n1, n3, g1, g4, g7, g10, zw_g_t, zw_let_e, hw, hd, e1, zE_in (k := i) (n := 12) (by omega) (by decide), zE_cl (k := i) (by omega), zE_in (k := d.w - 1 - i) (n := 12) (by omega) (by decide), zE_cl (k := d.w - 1 - i) (by omega), nI_1]
    rw [if_neg (nI_ge hi (by omega)), show o + 2 + 3 = o + 5 from rfl, hs i (by omega), hs (d.w - 1 - i) (by omega), Int32.zero_sub]
    rfl) (by
    unfold s_X6_unevenness_4
    simp only [n1, zw_g_t, hw, hd]
    exact if_pos (nI_le (Nat.le_refl _) (by omega))) (by omega)
  rw [show ((0 : Int32), (0 : Int32)) = (zq_un d s 0, nI 0) from rfl, l1]
  rfl
theorem zq_ring1 (a b c d : Int32) : 0 + a + b + c + d - a = b + c + d := by grind
/-- the nine sums in their order -/
def zq_vec (d : zq_D) (s : Nat → Int32) (gv : Int32) (j : Nat) : Int32 := if j = 0 then s 0 else if j = 1 then s 1 + s 2 + s 3 else if j = 2 then nI (zq_dk d s (zq_mx s d.w) d.w) else if j = 3 then zq_un d s (d.w / 2) else if j = 4 then s 7 else if j = 5 then s 4 else if j = 6 then s 5 else if j = 7 then s 6 else gv
theorem zq_sumUpC {sw : Bool} {I0 I : zI} {o cu : Nat} {d : zq_D} {x y w l : Int32} {n : Nat} {tr s : Nat → Int32} {fl sl ea gv : Int32} (hsn : zq_sn sw o) (hcu : zq_dr sw cu) (hcl : cu + 1 < o) (ok : zq_ok d) (hw : I o 2 = nI d.w) (hx : ∀ x, x < 12 → ((I cu 4 >>> (nI x &&& 31)) &&& 1 = 1 ↔ ∃ y, x < d.w ∧ y < d.t ∧ d.c x y ≠ 0)) (h : zq_LC I0 I (o + 2) x y w l n tr s fl sl ea) : ∃ I2, f_X6_sumUp o cu (zw_u I (o + 1) 8 gv) (zE_R sw) = some I2 ∧ (∀ a, a ≠ o + 1 → I2 a = I a) ∧ ∀ j, j < 9 → I2 (o + 1) j = zq_vec d s gv j := by
  have hsn2 := hsn
  obtain ⟨n1, n2, n3, n4, n5, g1, g2, g3, g4, g5, g6, g7, g8, g9, g10⟩ := hsn
  obtain ⟨h0, h1, h2, h3, h4, h5, -⟩ := h
  have off : ∀ (F : zI) (k : Nat) (v : Int32) (a : Nat), a ≠ o + 1 → zw_u F (o + 1) k v a = F a := fun F k v a ha => zw_u_off _ _ _ ha
  have s4 : ∀ j, j < 7 → zw_u I (o + 1) 8 gv (o + 2 + 2) j = s j := fun j hj => by rw [off _ _ _ _ (by omega)]; exact h3 j hj
  have l1 : zw_it (s_X6_sumUp_4 o cu (zw_u I (o + 1) 8 gv) (zE_R sw)) 1000000 (0, 0) = some (0 + s 0 + s 1 + s 2 + s 3) := by
    have st : ∀ i v, i < 4 → s_X6_sumUp_4 o cu (zw_u I (o + 1) 8 gv) (zE_R sw) (v, nI i) = some (.inl (v + s i, nI (i + 1))) := by
      intro i v hi
      unfold s_X6_sumUp_4
      simp only [n1, n3, g1, g3, g6, g9, zw_g_t, zw_let_e, zE_in (k := i) (n := 7) (by omega) (by decide), zE_cl (k := i) (by omega), nI_1, s4 i (by omega)]
      exact if_neg (nI_ge (b := 4) hi (by omega))
    rw [show ((0 : Int32), (0 : Int32)) = (0, nI 0) from rfl, zE_it1 999999 (st 0 _ (by decide)), zE_it1 999998 (st 1 _ (by decide)), zE_it1 999997 (st 2 _ (by decide)), zE_it1 999996 (st 3 _ (by decide))]
    refine zE_it0 999995 ?_
    unfold s_X6_sumUp_4
    exact if_pos (show (4 : Int32) ≤ nI 4 by decide)
  have dk : ∀ v1 v2, f_X6_darkColumns o cu (zw_u (zw_u (zw_u I (o + 1) 8 gv) (o + 1) 0 v1) (o + 1) 1 v2) (zE_R sw) = some (nI (zq_dk d s (zq_mx s d.w) d.w)) := fun v1 v2 => zq_darkC hsn2 hcu ok (by rw [off _ _ _ _ (by omega), off _ _ _ _ (by omega), off _ _ _ _ (by omega)]; exact hw) (fun j hj => by rw [off _ _ _ _ (by omega), off _ _ _ _ (by omega), off _ _ _ _ (by omega)]; exact h5 j hj) (by rw [off _ _ _ _ (by omega), off _ _ _ _ (by omega), off _ _ _ _ (by omega)]; exact hx)
  have un : ∀ v1 v2 v3, f_X6_unevenness o (zw_u (zw_u (zw_u (zw_u I (o + 1) 8 gv) (o + 1) 0 v1) (o + 1) 1 v2) (o + 1) 2 v3) (zE_R sw) = some (zq_un d s (d.w / 2)) := fun v1 v2 v3 => zq_unevenC hsn2 ok (by rw [off _ _ _ _ (by omega), off _ _ _ _ (by omega), off _ _ _ _ (by omega), off _ _ _ _ (by omega)]; exact hw) (fun j hj => by rw [off _ _ _ _ (by omega), off _ _ _ _ (by omega), off _ _ _ _ (by omega), off _ _ _ _ (by omega)]; exact h5 j hj)
  unfold f_X6_sumUp
  rw [l1]
  simp only [Option.bind_some, n1, n2, n3, n4, n5, g1, g3, g6, g9, zw_g_t, zw_let_e, show zw_in 0 7 = true from rfl, show zw_in 4 7 = true from rfl, show zw_in 5 7 = true from rfl, show zw_in 6 7 = true from rfl, show zw_in 0 9 = true from rfl, show zw_in 1 9 = true from rfl, show zw_in 2 9 = true from rfl, show zw_in 3 9 = true from rfl, show zw_in 4 9 = true from rfl, show zw_in 5 9 = true from rfl, show zw_in 6 9 = true from rfl, show zw_in 7 9 = true from rfl, show Int32.toNatClampNeg 0 = 0 from rfl, show Int32.toNatClampNeg 1 = 1 from rfl, show Int32.toNatClampNeg 2 = 2 from rfl, show Int32.toNatClampNeg 3 = 3 from rfl, show Int32.toNatClampNeg 4 = 4 from rfl, show Int32.toNatClampNeg 5 = 5 from rfl, show Int32.toNatClampNeg 6 = 6 from rfl, show Int32.toNatClampNeg 7 = 7 from rfl, off _ _ _ (o + 2 + 2) (by omega), off _ _ _ (o + 2) (by omega), h3 0 (by decide), h3 4 (by decide), h3 5 (by decide), h3 6 (by decide), h4, zq_ring1, dk, un]
  refine ⟨_, rfl, fun a ha => ?_, fun j hj => ?_⟩
  · simp only [off _ _ _ a ha]
  · unfold zq_vec
    by_cases c7 : j = 7
    · subst c7; rw [zE_u1]; rfl
    rw [zE_u2 _ _ (by omega)]
    by_cases c6 : j = 6
    · subst c6; rw [zE_u1]; rfl
    rw [zE_u2 _ _ (by omega)]
    by_cases c5 : j = 5
    · subst c5; rw [zE_u1]; rfl
    rw [zE_u2 _ _ (by omega)]
    by_cases c4 : j = 4
    · subst c4; rw [zE_u1]; rfl
    rw [zE_u2 _ _ (by omega)]
    by_cases c3 : j = 3
    · subst c3; rw [zE_u1]; rfl
    rw [zE_u2 _ _ (by omega)]
    by_cases c2 : j = 2
    · subst c2; rw [zE_u1]; rfl
    rw [zE_u2 _ _ (by omega)]
    by_cases c1 : j = 1
    · subst c1; rw [zE_u1]; rfl
    rw [zE_u2 _ _ (by omega)]
    by_cases c0 : j = 0
    · subst c0; rw [zE_u1]; rfl
    rw [zE_u2 _ _ (by omega)]
    obtain rfl : j = 8 := by omega
    rw [zE_u1]; rfl
theorem zq_ring2 (a b c : Int32) : a + (b + c) = a + b + c := (Int32.add_assoc a b c).symm
theorem zq_lightUpC {sw : Bool} {I : zI} {o cu st c : Nat} {d : zq_D} {fl sl ea ab le ri a b : Int32} (hsn : zq_sn sw o) (hcu : zq_dr sw cu) (hcl : cu + 1 < o) (hsf : zq_sf sw st) (hso : st + 2 < o) (hc : c < 4) (ok : zq_ok d) (dc : zq_DC I cu d) (dx : zq_DX I cu d) (hfl : I (st + 1) c = fl) (hsl : I (st + 2) c = sl) (hea : I st 2 = ea) (h5 : I o 5 = ab) (h6 : I o 6 = le) (h7 : I o 7 = ri) (h8 : I o 8 = a) (h9 : I o 9 = b) : ∃ I2, f_X6_lightUp o cu st (nI c) I (zE_R sw) = some I2 ∧ (∀ a, (a < o ∨ o + 5 < a) → I2 a = I a) ∧ I2 o 2 = nI d.w ∧ I2 o 3 = nI (zq_hf d d.t) ∧ I2 o 4 = nI c ∧ (∀ y, 5 ≤ y → I2 o y = I o y) ∧ (∀ j, j < 12 → I2 (o + 5) j = zq_shS d fl sl ea ab le ri a b (8 + j)) ∧ ∀ j, j < 9 → I2 (o + 1) j = zq_vec d (zq_shS d fl sl ea ab le ri a b) (zq_gv d ab le ri a b) j := by
  have w2 := ok.w2
  have t2 := ok.t2
  have hsn2 := hsn
  obtain ⟨n1, n2, n3, n4, n5, hli⟩ := hsn
  have off : ∀ (F : zI) (k : Nat) (v : Int32) (a : Nat), a ≠ o → zw_u F o k v a = F a := fun F k v a ha => zw_u_off _ _ _ ha
  have r3 : zw_u I o 2 (nI d.w) cu 3 = nI (zq_hf d d.t) := by rw [off _ _ _ _ (by omega)]; exact dx.1
  -- the state with width, weight and colour
  obtain ⟨I5, hI5⟩ : ∃ I5, I5 = zw_u (zw_u (zw_u I o 2 (nI d.w)) o 3 (nI (zq_hf d d.t))) o 4 (nI c) := ⟨_, rfl⟩
  have i5 : ∀ a, a ≠ o → I5 a = I a := fun a ha => by rw [hI5, off _ _ _ _ ha, off _ _ _ _ ha, off _ _ _ _ ha]
  have i5o : ∀ y, 5 ≤ y → I5 o y = I o y := fun y hy => by rw [hI5, zE_u2 _ _ (by omega), zE_u2 _ _ (by omega), zE_u2 _ _ (by omega)]
  have i52 : I5 o 2 = nI d.w ∧ I5 o 3 = nI (zq_hf d d.t) ∧ I5 o 4 = nI c := by
    rw [hI5]
    exact ⟨by rw [zE_u2 _ _ (by omega), zE_u2 _ _ (by omega), zE_u1], by rw [zE_u2 _ _ (by omega), zE_u1], by rw [zE_u1]⟩
  have dc5 : zq_DC I5 cu d := zq_DC_tr dc (i5 cu (by omega)) (i5 (cu + 1) (by omega))
  obtain ⟨Ib, b1, b2⟩ := zq_beginC (I := I5) (o := o + 2) (st := st) (c := c) hli hsf (by omega) hc zq_z
  rw [i5 (st + 1) (by omega), i5 (st + 2) (by omega), i5 st (by omega), hfl, hsl, hea] at b2
  have bo : ∀ K x y w l n tr s, zq_LC I5 K (o + 2) x y w l n tr s fl sl ea → ∀ y, 5 ≤ y → K o y = I o y := fun K x y w l n tr s h y hy => by rw [h.1 o (by omega)]; exact i5o y hy
  have bcu : ∀ K x y w l n tr s, zq_LC I5 K (o + 2) x y w l n tr s fl sl ea → K cu 1 = nI d.w ∧ K cu 2 = nI d.t := fun K x y w l n tr s h => by rw [h.1 cu (by omega), i5 cu (by omega)]; exact ⟨dc.w, dc.t⟩
  -- above
  have L1 : ∃ r : Int32 × zI, zw_it (s_X6_lightUp_49 o cu (zE_R sw)) 1000000 ((le + ri) * nI d.t, 0, Ib) = some r ∧ (r.1 = (le + ri) * nI d.t + zq_ga ab a b d.w ∧ ∃ x y w l, zq_LC I5 r.2 (o + 2) x y w l (zq_sa d fl sl ea ab a b d.w).1 (zq_sa d fl sl ea ab a b d.w).2.1 (zq_sa d fl sl ea ab a b d.w).2.2 fl sl ea) := by
    refine zE_for (fun i z => z.1 = (le + ri) * nI d.t + zq_ga ab a b i ∧ z.2.1 = nI i ∧ ∃ x y w l, zq_LC I5 z.2.2 (o + 2) x y w l (zq_sa d fl sl ea ab a b i).1 (zq_sa d fl sl ea ab a b i).2.1 (zq_sa d fl sl ea ab a b i).2.2 fl sl ea) _ d.w ?_ ?_ 0 _ (Nat.zero_le _) (by omega) ⟨(Int32.add_zero _).symm, rfl, _, _, _, _, b2⟩
    · rintro i ⟨z1, z2, K⟩ hi ⟨e1, e2, x, y, w, l, hl⟩
      dsimp only at e1 e2 hl
      subst e1 e2
      have q := bo _ _ _ _ _ _ _ _ hl
      have qc := bcu _ _ _ _ _ _ _ _ hl
      obtain ⟨I2, x2, y2, w2, l2, f1, f2⟩ := zq_followC (l := ab) hli hcu (by omega) ok dc5 0 i (Or.inl rfl) hl
      have f1b : f_X2_follow (o + 2) cu 0 (nI i) ab K (zE_R sw) = some I2 := f1
      have q2 := bo _ _ _ _ _ _ _ _ f2
      unfold s_X6_lightUp_49 j_X6_lightUp_76_49 j_X6_lightUp_100_49
      simp only [n1, n3, hli.1, hcu.1, zw_g_t, zw_let_e, qc.1, q 5 (by decide), q 8 (by decide), q 9 (by decide), h5, h8, h9, f1b, Option.bind_some, q2 5 (by decide), nI_1]
      rw [if_neg (nI_ge hi (by omega))]
      refine Or.inl ?_
      by_cases cc : nI i < a ∨ b < nI i
      · refine ⟨((le + ri) * nI d.t + zq_ga ab a b i + ab, nI (i + 1), I2), ?_, ?_, rfl, ?_⟩
        · rcases cc with c1 | c1
          · rw [if_pos c1]
          · have c2 : ¬ nI i ≤ b := by
              rw [Int32.le_iff_toInt_le]
              rw [Int32.lt_iff_toInt_lt] at c1
              omega
            rw [if_neg c2]
            split <;> rfl
        · show _ = (le + ri) * nI d.t + (if nI i < a ∨ b < nI i then zq_ga ab a b i + ab else zq_ga ab a b i)
          rw [if_pos cc, zq_ring2]
        · unfold zq_sa
          rw [if_pos cc]
          exact ⟨_, _, _, _, f2⟩
      · refine ⟨((le + ri) * nI d.t + zq_ga ab a b i, nI (i + 1), K), ?_, ?_, rfl, ?_⟩
        · have c1 : ¬ nI i < a := fun q => cc (Or.inl q)
          have c2 : nI i ≤ b := by
            rw [Int32.le_iff_toInt_le]
            have c3 : ¬ b < nI i := fun q => cc (Or.inr q)
            rw [Int32.lt_iff_toInt_lt] at c3
            omega
          rw [if_neg c1, if_pos c2]
        · show _ = (le + ri) * nI d.t + (if nI i < a ∨ b < nI i then zq_ga ab a b i + ab else zq_ga ab a b i)
          rw [if_neg cc]
        · unfold zq_sa
          rw [if_neg cc]
          exact ⟨_, _, _, _, hl⟩
    · rintro ⟨z1, z2, K⟩ ⟨e1, e2, x, y, w, l, hl⟩
      dsimp only at e1 e2 hl
      subst e1 e2
      have qc := bcu _ _ _ _ _ _ _ _ hl
      refine ⟨((le + ri) * nI d.t + zq_ga ab a b d.w, K), ?_, rfl, _, _, _, _, hl⟩
      unfold s_X6_lightUp_49
      simp only [hcu.1, zw_g_t, qc.1]
      exact if_pos (nI_le (Nat.le_refl _) (by omega))
  obtain ⟨⟨gv1, Ia⟩, a1, a2, ax, ay, aw, al, a3⟩ := L1
  dsimp only at a2 a3
  -- left and right
  have L2 : ∀ v4 : Int32, ∃ r : zI, zw_it (s_X6_lightUp_109 o cu v4 (zE_R sw)) 1000000 (0, Ia) = some r ∧ (∃ x y w l, zq_LC I5 r (o + 2) x y w l (zq_ss d fl sl ea le ri (zq_sa d fl sl ea ab a b d.w) d.t).1 (zq_ss d fl sl ea le ri (zq_sa d fl sl ea ab a b d.w) d.t).2.1 (zq_ss d fl sl ea le ri (zq_sa d fl sl ea ab a b d.w) d.t).2.2 fl sl ea) := by
    intro v4
    refine zE_for (fun i z => z.1 = nI i ∧ ∃ x y w l, zq_LC I5 z.2 (o + 2) x y w l (zq_ss d fl sl ea le ri (zq_sa d fl sl ea ab a b d.w) i).1 (zq_ss d fl sl ea le ri (zq_sa d fl sl ea ab a b d.w) i).2.1 (zq_ss d fl sl ea le ri (zq_sa d fl sl ea ab a b d.w) i).2.2 fl sl ea) _ d.t ?_ ?_ 0 _ (Nat.zero_le _) (by omega) ⟨rfl, _, _, _, _, a3⟩
    · rintro i ⟨z1, K⟩ hi ⟨e1, x, y, w, l, hl⟩
      dsimp only at e1 hl
      subst e1
      have q := bo _ _ _ _ _ _ _ _ hl
      have qc := bcu _ _ _ _ _ _ _ _ hl
      obtain ⟨I2, x2, y2, w2, l2, f1, f2⟩ := zq_followC (l := le) hli hcu (by omega) ok dc5 3 i (Or.inr (Or.inr rfl)) hl
      have f1b : f_X2_follow (o + 2) cu 3 (nI i) le K (zE_R sw) = some I2 := f1
      have q2 := bo _ _ _ _ _ _ _ _ f2
      obtain ⟨I3, x3, y3, w3, l3, f3, f4⟩ := zq_followC (l := ri) hli hcu (by omega) ok dc5 1 i (Or.inr (Or.inl rfl)) f2
      have f3b : f_X2_follow (o + 2) cu 1 (nI i) ri I2 (zE_R sw) = some I3 := f3
      refine Or.inl ⟨(nI (i + 1), I3), ?_, rfl, _, _, _, _, f4⟩
      unfold s_X6_lightUp_109
      simp only [n1, n3, hli.1, hcu.1, zw_g_t, zw_let_e, qc.2, q 6 (by decide), h6, f1b, Option.bind_some, q2 7 (by decide), h7, f3b, nI_1]
      exact if_neg (nI_ge hi (by omega))
    · rintro ⟨z1, K⟩ ⟨e1, x, y, w, l, hl⟩
      dsimp only at e1 hl
      subst e1
      have qc := bcu _ _ _ _ _ _ _ _ hl
      refine ⟨K, ?_, _, _, _, _, hl⟩
      unfold s_X6_lightUp_109
      simp only [hcu.1, zw_g_t, qc.2]
      exact if_pos (nI_le (Nat.le_refl _) (by omega))
  obtain ⟨Is, s1, sx, sy, sw', sl', s2⟩ := L2 gv1
  obtain ⟨I2, u1, u2, u3⟩ := zq_sumUpC (gv := gv1) hsn2 hcu hcl ok (by rw [s2.1 o (by omega)]; exact i52.1) (by rw [s2.1 cu (by omega), i5 cu (by omega)]; exact dx.2.1) s2
  refine ⟨I2, ?_, fun a ha => ?_, ?_, ?_, ?_, fun y hy => ?_, fun j hj => ?_, fun j hj => ?_⟩
  · unfold f_X6_lightUp
    simp only [hcu.1, n1, n2, n3, n4, n5, hli.1, zw_g_t, zw_let_e, dc.w, r3, ← hI5, b1, Option.bind_some, bo _ _ _ _ _ _ _ _ b2 6 (by decide), bo _ _ _ _ _ _ _ _ b2 7 (by decide), h6, h7, (bcu _ _ _ _ _ _ _ _ b2).2, a1, s1, show zw_in 8 9 = true from rfl, show Int32.toNatClampNeg 8 = 8 from rfl, u1]
  · rw [u2 a (by omega), s2.1 a (by omega), i5 a (by omega)]
  · rw [u2 o (by omega), s2.1 o (by omega)]; exact i52.1
  · rw [u2 o (by omega), s2.1 o (by omega)]; exact i52.2.1
  · rw [u2 o (by omega), s2.1 o (by omega)]; exact i52.2.2
  · rw [u2 o (by omega), s2.1 o (by omega)]; exact i5o y hy
  · rw [u2 (o + 5) (by omega)]; exact s2.2.2.2.2.2.1 j hj
  · rw [u3 j hj, a2, Int32.add_comm]; rfl
