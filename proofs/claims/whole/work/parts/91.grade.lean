/-! ===== grade, price ===== -/
/-- rules: how many grades, how many prices; their E and literals, those of prices from 8 on -/
abbrev zr_Q : Type := Nat × Nat × (Nat → List zr_C) × (Nat → List zr_L)
def zr_has (Q : zr_Q) (k : Nat) : Prop := k < Q.1 ∨ (8 ≤ k ∧ k < 8 + Q.2.1)
def zr_QK (Q : zr_Q) : Prop := Q.1 ≤ 8 ∧ Q.2.1 ≤ 8 ∧ ∀ k, zr_has Q k → (∀ l, l ∈ Q.2.2.2 k → zr_ok l) ∧ (∀ x xs, Q.2.2.2 k = x :: xs → x.1 = true) ∧ (8 ≤ k → zr_E (Q.2.2.1 k))
def zr_QC (b : Bool) (I : zI) (Q : zr_Q) : Prop := I (zE_h b) 7 = nI Q.1 ∧ I (zE_h b) 9 = nI Q.2.1 ∧ ∃ cl, cl ≤ 500 ∧ I (zE_h b) 14 = nI cl ∧ ∀ k, zr_has Q k → zr_RC b I (zE_h b + (41 + k)) cl (Q.2.2.1 k) (Q.2.2.2 k)
def zr_QM (b : Bool) (I : zI) (Q : zr_Q) : Prop := I 167 (zq_lv b) = nI Q.1 ∧ I 168 (zq_lv b) = nI Q.2.1 ∧ ∀ k, zr_has Q k → zr_RM I (16 * zq_lv b + k) (Q.2.2.1 k) (Q.2.2.2 k)
theorem zr_has16 {Q : zr_Q} (h : zr_QK Q) {k : Nat} (hk : zr_has Q k) : k < 16 := by
  have h1 := h.1
  have h2 := h.2.1
  unfold zr_has at hk
  omega
theorem zr_RC_tr {b : Bool} {I2 I : zI} {ro cl : Nat} {e : List zr_C} {ls : List zr_L} (h : zr_RC b I ro cl e ls) (h1 : 8 ≤ ro) (h2 : ro ≤ 121) (h3 : ∀ a, 8 ≤ a → a ≤ 121 → I2 a = I a) : zr_RC b I2 ro cl e ls := by
  have hb := zE_hb b
  obtain ⟨w, c, n, q0, q1, q2, q3, q4, q5, q6, q7⟩ := h
  exact ⟨w, c, n, by rw [h3 ro h1 h2]; exact q0, by rw [h3 ro h1 h2]; exact q1, by rw [h3 ro h1 h2]; exact q2, q3, q4, q5, by rw [h3 _ (by omega) (by omega), h3 (zE_h b + 8) (by omega) (by omega)]; exact q6, by rw [h3 _ (by omega) (by omega), h3 (zE_h b + 8) (by omega) (by omega)]; exact q7⟩
theorem zr_hb (b : Bool) {k : Nat} (hk : k < 16) : 8 ≤ zE_h b + (41 + k) ∧ zE_h b + (41 + k) ≤ 121 := by
  have := zE_hb b
  omega
theorem zr_QC_tr {b : Bool} {I2 I : zI} {Q : zr_Q} (hQ : zr_QK Q) (h : zr_QC b I Q) (h3 : ∀ a, 8 ≤ a → a ≤ 121 → I2 a = I a) : zr_QC b I2 Q := by
  have hb := zE_hb b
  obtain ⟨q1, q2, cl, q3, q4, q5⟩ := h
  exact ⟨by rw [h3 _ (by omega) (by omega)]; exact q1, by rw [h3 _ (by omega) (by omega)]; exact q2, cl, q3, by rw [h3 _ (by omega) (by omega)]; exact q4, fun k hk => zr_RC_tr (q5 k hk) (zr_hb b (zr_has16 hQ hk)).1 (zr_hb b (zr_has16 hQ hk)).2 h3⟩
theorem zr_QM_tr {b : Bool} {I2 I : zI} {Q : zr_Q} (h : zr_QM b I Q) (h3 : ∀ a, 167 ≤ a → a ≤ 180 → I2 a = I a) : zr_QM b I2 Q := by
  obtain ⟨q1, q2, q5⟩ := h
  exact ⟨by rw [h3 _ (by decide) (by decide)]; exact q1, by rw [h3 _ (by decide) (by decide)]; exact q2, fun k hk => zr_RM_tr (q5 k hk) (fun a a1 a2 => h3 a (by omega) a2)⟩
/-- the first that holds -/
def zr_ff (F : Nat → Bool) : Nat → Nat → Option Nat
  | 0, _ => none
  | n + 1, i => if F i = true then some i else zr_ff F n (i + 1)
theorem zr_ff_none {F : Nat → Bool} : ∀ {n i : Nat}, (∀ j, i ≤ j → j < i + n → F j = false) → zr_ff F n i = none
  | 0, _, _ => rfl
  | n + 1, i, h => by
    unfold zr_ff
    rw [if_neg (by rw [h i (by omega) (by omega)]; decide)]
    exact zr_ff_none (fun j h1 h2 => h j (by omega) (by omega))
theorem zr_ff_some {F : Nat → Bool} {g : Nat} : ∀ {n i : Nat}, i ≤ g → g < i + n → F g = true → (∀ j, i ≤ j → j < g → F j = false) → zr_ff F n i = some g
  | 0, i, h1, h2, _, _ => by omega
  | n + 1, i, h1, h2, h3, h4 => by
    unfold zr_ff
    by_cases e : i = g
    · subst e; rw [if_pos h3]
    · rw [if_neg (by rw [h4 i (by omega) (by omega)]; decide)]
      exact zr_ff_some (by omega) (by omega) h3 (fun j q1 q2 => h4 j (by omega) q2)
def zr_cl (v : Int32) : Int32 := if v < 0 then 0 else if 1000000 < v then 1000000 else v
def zr_gr (V : Nat → Int32) (Q : zr_Q) : Int32 := match zr_ff (fun g => zr_h V (Q.2.2.2 g)) Q.1 0 with
  | none => -2
  | some g => nI g
def zr_pr (V : Nat → Int32) (Q : zr_Q) : Int32 := match zr_ff (fun g => zr_h V (Q.2.2.2 (8 + g))) Q.2.1 0 with
  | none => 0
  | some g => zr_cl (if zr_z V (Q.2.2.1 (8 + g)) = true then 0 else zr_v V (Q.2.2.1 (8 + g)))
theorem zr_cl_p (v : Int32) : ∃ p, zr_cl v = nI p ∧ p ≤ 1000000 := by
  unfold zr_cl
  by_cases h : v < 0
  · rw [if_pos h]; exact ⟨0, rfl, by decide⟩
  · rw [if_neg h]
    obtain ⟨j, hj, rfl⟩ := nI_of h
    by_cases h2 : (1000000 : Int32) < nI j
    · rw [if_pos h2]; exact ⟨1000000, rfl, by decide⟩
    · rw [if_neg h2]
      refine ⟨j, rfl, ?_⟩
      have := mt (nI_ltI (a := 1000000) (b := j) (by decide) hj).mpr h2
      omega
theorem zr_pr_p (V : Nat → Int32) (Q : zr_Q) : ∃ p, zr_pr V Q = nI p ∧ p ≤ 1000000 := by
  unfold zr_pr
  split
  · exact ⟨0, rfl, by decide⟩
  · exact zr_cl_p _
theorem zr_clC (v : Int32) : (if 0 < (if 1000000 < v then (1000000 : Int32) else v) then (if 1000000 < v then (1000000 : Int32) else v) else 0) = zr_cl v := by
  unfold zr_cl
  by_cases h2 : (1000000 : Int32) < v
  · have h : ¬ v < 0 := by
      rw [Int32.lt_iff_toInt_lt] at h2 ⊢
      have e1 : (1000000 : Int32).toInt = 1000000 := by decide
      have e2 : (0 : Int32).toInt = 0 := by decide
      omega
    rw [if_pos h2, if_neg h, if_pos (by decide)]
  · rw [if_neg h2]
    by_cases h : v < 0
    · rw [if_pos h, if_neg (by rw [Int32.lt_iff_toInt_lt] at h ⊢; omega)]
    · rw [if_neg h]
      by_cases h3 : 0 < v
      · rw [if_pos h3]
      · rw [if_neg h3]
        rw [Int32.lt_iff_toInt_lt] at h h3
        exact Int32.toInt_inj.mp (by omega)
theorem zr_clM (v : Int32) : (if 0 ≤ v then (if v ≤ 1000000 then v else 1000000) else 0) = zr_cl v := by
  unfold zr_cl
  by_cases h : v < 0
  · rw [if_pos h, if_neg (by rw [Int32.lt_iff_toInt_lt] at h; rw [Int32.le_iff_toInt_le]; omega)]
  · rw [if_neg h, if_pos (by rw [Int32.lt_iff_toInt_lt] at h; rw [Int32.le_iff_toInt_le]; omega)]
    by_cases h2 : (1000000 : Int32) < v
    · rw [if_pos h2, if_neg (by rw [Int32.lt_iff_toInt_lt] at h2; rw [Int32.le_iff_toInt_le]; omega)]
    · rw [if_neg h2, if_pos (by rw [Int32.lt_iff_toInt_lt] at h2; rw [Int32.le_iff_toInt_le]; omega)]
theorem zr_refR (b : Bool) {k : Nat} (hk : k < 8) : zE_R b (zE_h b) 6 = zE_h b + 4 ∧ zE_R b (zE_h b + 4) k = zE_h b + (41 + k) ∧ zE_R b (zE_h b) 8 = zE_h b + 5 ∧ zE_R b (zE_h b + 5) k = zE_h b + (41 + (8 + k)) ∧ zw_gc (zE_h b + 4) 17 = true ∧ zw_gc (zE_h b + 5) 17 = true ∧ zw_SH (zE_h b + 4) = (17, 8) ∧ zw_SH (zE_h b + 5) = (17, 8) ∧ zw_gc (zE_h b + (41 + k)) 5 = true ∧ zw_gc (zE_h b + (41 + (8 + k))) 5 = true := ⟨(zE_rH b b).2.2.2.1, zE_rHg b b k hk, (zE_rH b b).2.2.2.2.1, (zE_rHp b b k hk).trans (by omega), (zE_gH b).2.2.2.2.1, (zE_gH b).2.2.2.2.2.1, (zE_sH b).2.2.2.2.1, (zE_sH b).2.2.2.2.2.1, (zE_sHru b k (by omega)).2, (zE_sHru b (8 + k) (by omega)).2⟩
theorem zr_Vc_oK {I2 I : zI} {o : Nat} (h : zr_oK I2 I) (ho : o + 1 < 138) (j : Nat) : zr_Vc I2 o j = zr_Vc I o j := by
  unfold zr_Vc
  rw [h o (by omega) (by omega), h (o + 1) (by omega) (by omega)]
theorem zr_gradeC {b : Bool} {I : zI} {Q : zr_Q} {V : Nat → Int32} {o : Nat} (hQ : zr_QK Q) (hC : zr_QC b I Q) (hsn : zq_sn b o) (ho : o + 1 < 138) (hV : ∀ j, j < 8 → zr_Vc I o (zr_cv j) = V j) : ∃ I2, f_X1_gradeBy (zE_h b) o 138 I (zE_R b) = some (zr_gr V Q, I2) ∧ zr_oK I2 I := by
  have hb := zE_hb b
  have k1 := hQ.1
  have h14 := hC.1
  obtain ⟨-, -, cl, hcl, hl, hR⟩ := id hC
  have go := zE_for (step := s_X1_gradeBy_2 (zE_h b) o 138 (zE_R b)) (fun i s => ∃ I', s = (nI i, I') ∧ zr_oK I' I ∧ ∀ j, j < i → zr_h V (Q.2.2.2 j) = false) (fun r => (∃ I', r = .inl I' ∧ zr_oK I' I ∧ zr_gr V Q = -2) ∨ (∃ g I', r = .inr (nI g, I') ∧ zr_oK I' I ∧ zr_gr V Q = nI g)) Q.1 ?_ ?_ 0 (0, I) (by omega) (by omega) ⟨I, rfl, fun _ _ _ => rfl, fun j hj => by omega⟩
  · obtain ⟨r, q1, q2⟩ := go
    unfold f_X1_gradeBy
    rw [q1, Option.bind_some]
    rcases q2 with ⟨I', rfl, q3, q4⟩ | ⟨g, I', rfl, q3, q4⟩
    · rw [q4]; exact ⟨I', rfl, q3⟩
    · rw [q4]; exact ⟨I', rfl, q3⟩
  · rintro i s hi ⟨I', rfl, f1, f2⟩
    obtain ⟨r1, r2, -, -, g1, -, s1, -, g2, -⟩ := zr_refR b (k := i) (by omega)
    have hC' := zr_QC_tr hQ hC (fun a a1 a2 => f1 a (by omega) (by omega))
    obtain ⟨p1, p2⟩ := hQ.2.2 i (Or.inl hi)
    obtain ⟨I2, h1, h2⟩ := zr_holdsC (sw := b) (I := I') (V := V) (o := o) (cl := cl) hsn ho g2 hcl (by rw [f1 _ (by omega) (by omega)]; exact hl) (fun j hj => by rw [zr_Vc_oK f1 ho]; exact hV j hj) (zr_RC_tr (hR i (Or.inl hi)) (by omega) (by omega) (fun a a1 a2 => f1 a (by omega) (by omega))) p1
    have f3 : zr_oK I2 I := fun a ha hb => (h2 a ha hb).trans (f1 a ha hb)
    unfold s_X1_gradeBy_2
    simp only [(zE_gH b).1, zE_gC, zw_g_t, hC'.1, if_neg (nI_ge hi (by omega)), r1, g1, s1, zE_in (show i < 8 by omega) (by decide), zE_cl (show i < 2 ^ 31 by omega), r2, g2, h1, Option.bind_some, zw_let_e, nI_1]
    cases ht : zr_h V (Q.2.2.2 i)
    · rw [if_pos (show zr_b false = 0 from rfl)]
      refine Or.inl ⟨_, rfl, I2, rfl, f3, fun j hj => ?_⟩
      by_cases e : j = i
      · rw [e]; exact ht
      · exact f2 j (by omega)
    · rw [if_neg (show ¬ zr_b true = 0 by decide)]
      refine Or.inr ⟨_, rfl, Or.inr ⟨i, I2, rfl, f3, ?_⟩⟩
      unfold zr_gr
      rw [zr_ff_some (g := i) (by omega) (by omega) ht (fun j _ hj => f2 j hj)]
  · rintro s ⟨I', rfl, f1, f2⟩
    have hC' := zr_QC_tr hQ hC (fun a a1 a2 => f1 a (by omega) (by omega))
    unfold s_X1_gradeBy_2
    simp only [(zE_gH b).1, zw_g_t, hC'.1, if_pos (nI_le (Nat.le_refl Q.1) (by omega))]
    refine ⟨_, rfl, Or.inl ⟨I', rfl, f1, ?_⟩⟩
    unfold zr_gr
    rw [zr_ff_none (fun j _ hj => f2 j (by omega))]
theorem zr_priceC {b : Bool} {I : zI} {Q : zr_Q} {V : Nat → Int32} {o : Nat} (hQ : zr_QK Q) (hC : zr_QC b I Q) (hsn : zq_sn b o) (ho : o + 1 < 138) (hV : ∀ j, j < 8 → zr_Vc I o (zr_cv j) = V j) : ∃ I2, f_X1_priceBy (zE_h b) o 138 I (zE_R b) = some (zr_pr V Q, I2) ∧ zr_oK I2 I := by
  have hb := zE_hb b
  have k1 := hQ.2.1
  obtain ⟨-, -, cl, hcl, hl, hR⟩ := id hC
  have go := zE_for (step := s_X1_priceBy_2 (zE_h b) o 138 (zE_R b)) (fun i s => ∃ I', s = (nI i, I') ∧ zr_oK I' I ∧ ∀ j, j < i → zr_h V (Q.2.2.2 (8 + j)) = false) (fun r => (∃ I', r = .inl I' ∧ zr_oK I' I ∧ zr_pr V Q = 0) ∨ (∃ g I', r = .inr (nI g, I') ∧ g < Q.2.1 ∧ zr_oK I' I ∧ zr_pr V Q = zr_cl (if zr_z V (Q.2.2.1 (8 + g)) = true then 0 else zr_v V (Q.2.2.1 (8 + g))))) Q.2.1 ?_ ?_ 0 (0, I) (by omega) (by omega) ⟨I, rfl, fun _ _ _ => rfl, fun j hj => by omega⟩
  · obtain ⟨r, q1, q2⟩ := go
    unfold f_X1_priceBy
    rw [q1, Option.bind_some]
    rcases q2 with ⟨I', rfl, q3, q4⟩ | ⟨g, I', rfl, hg, q3, q4⟩
    · rw [q4]; exact ⟨I', rfl, q3⟩
    · rw [q4]
      obtain ⟨-, -, r1, r2, -, g1, -, s1, -, g2⟩ := zr_refR b (k := g) (by omega)
      obtain ⟨I2, h1, h2⟩ := zr_worthC (sw := b) (I := I') (V := V) (o := o) (cl := cl) hsn ho g2 hcl (by rw [q3 _ (by omega) (by omega)]; exact hl) (fun j hj => by rw [zr_Vc_oK q3 ho]; exact hV j hj) (zr_RC_tr (hR (8 + g) (Or.inr ⟨by omega, by omega⟩)) (by omega) (by omega) (fun a a1 a2 => q3 a (by omega) (by omega))) ((hQ.2.2 (8 + g) (Or.inr ⟨by omega, by omega⟩)).2.2 (by omega))
      simp only [(zE_gH b).1, zE_gC, zw_g_t, r1, g1, s1, zE_in (show g < 8 by omega) (by decide), zE_cl (show g < 2 ^ 31 by omega), r2, g2, h1, Option.bind_some, zw_let_e, zr_clC]
      exact ⟨I2, rfl, fun a ha hb => (h2 a ha hb).trans (q3 a ha hb)⟩
  · rintro i s hi ⟨I', rfl, f1, f2⟩
    obtain ⟨-, -, r1, r2, -, g1, -, s1, -, g2⟩ := zr_refR b (k := i) (by omega)
    have hC' := zr_QC_tr hQ hC (fun a a1 a2 => f1 a (by omega) (by omega))
    obtain ⟨p1, p2⟩ := hQ.2.2 (8 + i) (Or.inr ⟨by omega, by omega⟩)
    obtain ⟨I2, h1, h2⟩ := zr_holdsC (sw := b) (I := I') (V := V) (o := o) (cl := cl) hsn ho g2 hcl (by rw [f1 _ (by omega) (by omega)]; exact hl) (fun j hj => by rw [zr_Vc_oK f1 ho]; exact hV j hj) (zr_RC_tr (hR (8 + i) (Or.inr ⟨by omega, by omega⟩)) (by omega) (by omega) (fun a a1 a2 => f1 a (by omega) (by omega))) p1
    have f3 : zr_oK I2 I := fun a ha hb => (h2 a ha hb).trans (f1 a ha hb)
    unfold s_X1_priceBy_2
    simp only [(zE_gH b).1, zE_gC, zw_g_t, hC'.2.1, if_neg (nI_ge hi (by omega)), r1, g1, s1, zE_in (show i < 8 by omega) (by decide), zE_cl (show i < 2 ^ 31 by omega), r2, g2, h1, Option.bind_some, zw_let_e, nI_1]
    cases ht : zr_h V (Q.2.2.2 (8 + i))
    · rw [if_pos (show zr_b false = 0 from rfl)]
      refine Or.inl ⟨_, rfl, I2, rfl, f3, fun j hj => ?_⟩
      by_cases e : j = i
      · rw [e]; exact ht
      · exact f2 j (by omega)
    · rw [if_neg (show ¬ zr_b true = 0 by decide)]
      refine Or.inr ⟨_, rfl, Or.inr ⟨i, I2, rfl, hi, f3, ?_⟩⟩
      unfold zr_pr
      rw [zr_ff_some (g := i) (by omega) (by omega) ht (fun j _ hj => f2 j hj)]
  · rintro s ⟨I', rfl, f1, f2⟩
    have hC' := zr_QC_tr hQ hC (fun a a1 a2 => f1 a (by omega) (by omega))
    unfold s_X1_priceBy_2
    simp only [(zE_gH b).1, zw_g_t, hC'.2.1, if_pos (nI_le (Nat.le_refl Q.2.1) (by omega))]
    refine ⟨_, rfl, Or.inl ⟨I', rfl, f1, ?_⟩⟩
    unfold zr_pr
    rw [zr_ff_none (fun j _ hj => f2 j (by omega))]
theorem zr_n16 (a c : Nat) : 16 * nI a + nI c = nI (16 * a + c) := by
  rw [show (16 : Int32) = nI 16 from rfl, pk_mul, nI_add]
theorem zr_n168 (a c : Nat) : 16 * nI a + 8 + nI c = nI (16 * a + (8 + c)) := by
  rw [show (16 : Int32) = nI 16 from rfl, show (8 : Int32) = nI 8 from rfl, pk_mul, nI_add, nI_add]
  congr 1
  omega
theorem zr_gradeM {b : Bool} {I : zI} {Q : zr_Q} (hQ : zr_QK Q) (hM : zr_QM b I Q) (h18 : I 148 18 = nI (zq_lv b)) : ∃ r I2, zw_it (s_X11_grade_15 148 (zE_R b)) 1000000 (0, I) = some r ∧ zr_oM I2 I ∧ ((r = .inl I2 ∧ zr_gr (I 182) Q = -2) ∨ (∃ g, r = .inr (nI g, I2) ∧ zr_gr (I 182) Q = nI g)) := by
  have hlv := zq_lv1 b
  have k1 := hQ.1
  have go := zE_for (step := s_X11_grade_15 148 (zE_R b)) (fun i s => ∃ I', s = (nI i, I') ∧ zr_oM I' I ∧ ∀ j, j < i → zr_h (I 182) (Q.2.2.2 j) = false) (fun r => ∃ I2, zr_oM I2 I ∧ ((r = .inl I2 ∧ zr_gr (I 182) Q = -2) ∨ (∃ g, r = .inr (nI g, I2) ∧ zr_gr (I 182) Q = nI g))) Q.1 ?_ ?_ 0 (0, I) (by omega) (by omega) ⟨I, rfl, zr_oM.rf I, fun j hj => by omega⟩
  · obtain ⟨r, q1, I2, q2, q3⟩ := go
    exact ⟨r, I2, q1, q2, q3⟩
  · rintro i s hi ⟨I', rfl, f1, f2⟩
    have hM' := zr_QM_tr hM (I2 := I') (fun a a1 a2 => f1.1 a (by omega) (by omega))
    have e18 : I' 148 18 = nI (zq_lv b) := (f1.2 18 (by decide)).trans h18
    have e82 : I' 182 = I 182 := f1.1 182 (by decide) (by decide)
    obtain ⟨p1, p2, -⟩ := hQ.2.2 i (Or.inl hi)
    obtain ⟨I2, h1, h2⟩ := zr_holdsM (sw := b) (I := I') (k := 16 * zq_lv b + i) (by omega) (hM'.2.2 i (Or.inl hi)) p1 p2
    rw [e82] at h1
    unfold s_X11_grade_15
    simp only [zE_gM, zE_rM b, zE_sM, zw_g_t, e18, zE_in hlv (by decide), zE_cl (show zq_lv b < 2 ^ 31 by omega), hM'.1, if_neg (nI_ge hi (by omega)), zr_n16, h1, Option.bind_some, zw_let_e, nI_1]
    cases ht : zr_h (I 182) (Q.2.2.2 i)
    · rw [if_pos (show zr_b false = 0 from rfl)]
      refine Or.inl ⟨_, rfl, I2, rfl, h2.tr f1, fun j hj => ?_⟩
      by_cases e : j = i
      · rw [e]; exact ht
      · exact f2 j (by omega)
    · rw [if_neg (show ¬ zr_b true = 0 by decide)]
      refine Or.inr ⟨_, rfl, I2, h2.tr f1, Or.inr ⟨i, rfl, ?_⟩⟩
      unfold zr_gr
      rw [zr_ff_some (g := i) (by omega) (by omega) ht (fun j _ hj => f2 j hj)]
  · rintro s ⟨I', rfl, f1, f2⟩
    have hM' := zr_QM_tr hM (I2 := I') (fun a a1 a2 => f1.1 a (by omega) (by omega))
    have e18 : I' 148 18 = nI (zq_lv b) := (f1.2 18 (by decide)).trans h18
    unfold s_X11_grade_15
    simp only [zE_gM, zE_rM b, zE_sM, zw_g_t, e18, zE_in hlv (by decide), zE_cl (show zq_lv b < 2 ^ 31 by omega), hM'.1, if_pos (nI_le (Nat.le_refl Q.1) (by omega))]
    refine ⟨_, rfl, I', f1, Or.inl ⟨rfl, ?_⟩⟩
    unfold zr_gr
    rw [zr_ff_none (fun j _ hj => f2 j (by omega))]
theorem zr_priceM {b : Bool} {I : zI} {Q : zr_Q} (hQ : zr_QK Q) (hM : zr_QM b I Q) (h18 : I 148 18 = nI (zq_lv b)) : ∃ I2, f_X11_priceNow 148 I (zE_R b) = some (zr_pr (I 182) Q, I2) ∧ zr_oM I2 I := by
  have hlv := zq_lv1 b
  have k1 := hQ.2.1
  have go := zE_for (step := s_X11_priceNow_2 148 (zE_R b)) (fun i s => ∃ I', s = (nI i, I') ∧ zr_oM I' I ∧ ∀ j, j < i → zr_h (I 182) (Q.2.2.2 (8 + j)) = false) (fun r => (∃ I', r = .inl I' ∧ zr_oM I' I ∧ zr_pr (I 182) Q = 0) ∨ (∃ g I', r = .inr (nI (16 * zq_lv b + (8 + g)), I') ∧ g < Q.2.1 ∧ zr_oM I' I ∧ zr_pr (I 182) Q = zr_cl (if zr_z (I 182) (Q.2.2.1 (8 + g)) = true then 0 else zr_v (I 182) (Q.2.2.1 (8 + g))))) Q.2.1 ?_ ?_ 0 (0, I) (by omega) (by omega) ⟨I, rfl, zr_oM.rf I, fun j hj => by omega⟩
  · obtain ⟨r, q1, q2⟩ := go
    unfold f_X11_priceNow
    rw [q1, Option.bind_some]
    rcases q2 with ⟨I', rfl, q3, q4⟩ | ⟨g, I', rfl, hg, q3, q4⟩
    · rw [q4]; exact ⟨I', rfl, q3⟩
    · rw [q4]
      have hM' := zr_QM_tr hM (I2 := I') (fun a a1 a2 => q3.1 a (by omega) (by omega))
      have e82 : I' 182 = I 182 := q3.1 182 (by decide) (by decide)
      obtain ⟨f, l, m1, m2, m3, m4, -⟩ := hM'.2.2 (8 + g) (Or.inr ⟨by omega, by omega⟩)
      obtain ⟨I2, h1, h2, -⟩ := zr_termOf (sw := b) ((hQ.2.2 (8 + g) (Or.inr ⟨by omega, by omega⟩)).2.2 (by omega)) m3 m4
      rw [e82] at h1
      simp only [zE_gM, zE_rM b, zE_sM, zw_g_t, zE_in (show 16 * zq_lv b + (8 + g) < 32 by omega) (by decide), zE_cl (show 16 * zq_lv b + (8 + g) < 2 ^ 31 by omega), m1, m2, h1, Option.bind_some]
      refine ⟨I2, ?_, h2.tr q3⟩
      generalize (if zr_z (I 182) (Q.2.2.1 (8 + g)) = true then (0 : Int32) else zr_v (I 182) (Q.2.2.1 (8 + g))) = w
      rw [← zr_clM w]
      by_cases w1 : 0 ≤ w
      · rw [if_pos w1, if_pos w1]
        by_cases w2 : w ≤ 1000000
        · rw [if_pos w2, if_pos w2]
        · rw [if_neg w2, if_neg w2]
      · rw [if_neg w1, if_neg w1]
  · rintro i s hi ⟨I', rfl, f1, f2⟩
    have hM' := zr_QM_tr hM (I2 := I') (fun a a1 a2 => f1.1 a (by omega) (by omega))
    have e18 : I' 148 18 = nI (zq_lv b) := (f1.2 18 (by decide)).trans h18
    have e82 : I' 182 = I 182 := f1.1 182 (by decide) (by decide)
    obtain ⟨p1, p2, -⟩ := hQ.2.2 (8 + i) (Or.inr ⟨by omega, by omega⟩)
    obtain ⟨I2, h1, h2⟩ := zr_holdsM (sw := b) (I := I') (k := 16 * zq_lv b + (8 + i)) (by omega) (hM'.2.2 (8 + i) (Or.inr ⟨by omega, by omega⟩)) p1 p2
    rw [e82] at h1
    unfold s_X11_priceNow_2
    simp only [zE_gM, zE_rM b, zE_sM, zw_g_t, e18, zE_in hlv (by decide), zE_cl (show zq_lv b < 2 ^ 31 by omega), hM'.2.1, if_neg (nI_ge hi (by omega)), zr_n168, zw_let_e, h1, Option.bind_some, nI_1]
    cases ht : zr_h (I 182) (Q.2.2.2 (8 + i))
    · rw [if_neg (fun q => q rfl)]
      refine Or.inl ⟨_, rfl, I2, rfl, h2.tr f1, fun j hj => ?_⟩
      by_cases e : j = i
      · rw [e]; exact ht
      · exact f2 j (by omega)
    · rw [if_pos (show ¬ zr_b true = 0 by decide)]
      refine Or.inr ⟨_, rfl, Or.inr ⟨i, I2, rfl, hi, h2.tr f1, ?_⟩⟩
      unfold zr_pr
      rw [zr_ff_some (g := i) (by omega) (by omega) ht (fun j _ hj => f2 j hj)]
  · rintro s ⟨I', rfl, f1, f2⟩
    have hM' := zr_QM_tr hM (I2 := I') (fun a a1 a2 => f1.1 a (by omega) (by omega))
    have e18 : I' 148 18 = nI (zq_lv b) := (f1.2 18 (by decide)).trans h18
    unfold s_X11_priceNow_2
    simp only [zE_gM, zE_rM b, zE_sM, zw_g_t, e18, zE_in hlv (by decide), zE_cl (show zq_lv b < 2 ^ 31 by omega), hM'.2.1, if_pos (nI_le (Nat.le_refl Q.2.1) (by omega))]
    refine ⟨_, rfl, Or.inl ⟨I', rfl, f1, ?_⟩⟩
    unfold zr_pr
    rw [zr_ff_none (fun j _ hj => f2 j (by omega))]
/-- the remembered SHINE's variables once more -/
theorem zr_again {b : Bool} {I : zI} : ∃ I2, f_X11_again 148 I (zE_R b) = some I2 ∧ (∀ a, a ≠ 182 → I2 a = I a) ∧ ∀ j, j < 8 → I2 182 j = I 189 j := by
  have go := zE_for (step := s_X11_again_2 148 (zE_R b)) (fun i s => ∃ I', s = (nI i, I') ∧ (∀ a, a ≠ 182 → I' a = I a) ∧ ∀ j, j < i → I' 182 j = I 189 j) (fun r => (∀ a, a ≠ 182 → r a = I a) ∧ ∀ j, j < 8 → r 182 j = I 189 j) 8 ?_ ?_ 0 (0, I) (by decide) (by decide) ⟨I, rfl, fun _ _ => rfl, fun j hj => by omega⟩
  · obtain ⟨r, q1, q2⟩ := go
    unfold f_X11_again
    rw [q1, Option.bind_some]
    exact ⟨r, rfl, q2⟩
  · rintro i s hi ⟨I', rfl, f1, f2⟩
    have e1 : I' 189 i = I 189 i := by rw [f1 189 (by decide)]
    unfold s_X11_again_2
    simp only [zE_gM, zE_rM b, zE_sM, zw_g_t, if_neg (show ¬ (8 : Int32) ≤ nI i from nI_ge (b := 8) hi (by decide)), zE_in hi (by decide), zE_cl (show i < 2 ^ 31 by omega), zw_let_e, nI_1, e1]
    refine Or.inl ⟨_, rfl, _, rfl, fun a ha => by rw [zw_u_off _ _ _ ha, f1 a ha], fun j hj => ?_⟩
    by_cases e : j = i
    · subst e; rw [zE_u1]
    · rw [zE_u2 _ _ (by omega)]; exact f2 j (by omega)
  · rintro s ⟨I', rfl, f1, f2⟩
    refine ⟨I', ?_, f1, f2⟩
    unfold s_X11_again_2
    dsimp only
    rw [if_pos (show (8 : Int32) ≤ nI 8 by decide)]
def zr_oG (I2 I : zI) : Prop := (∀ a, a ≠ 138 → a ≠ 139 → a ≠ 148 → a ≠ 182 → a ≠ 183 → I2 a = I a) ∧ ∀ y, y ≠ 51 → I2 148 y = I 148 y
theorem zr_S_V {I : zI} {n : Nat} (h2 : I 126 2 = nI n) (h6 : ∀ j, j < 9 → I 127 j = I 190 j) (h7 : I 189 0 = I 190 0 ∧ I 189 1 = I 190 1 ∧ I 189 2 = I 190 2 ∧ I 189 3 = I 126 3 ∧ I 189 4 = I 190 3 ∧ I 189 5 = I 190 4 ∧ I 189 6 = nI n ∧ I 189 7 = I 126 4) : ∀ j, j < 8 → zr_Vc I 126 (zr_cv j) = I 189 j := by
  obtain ⟨a0, a1, a2, a3, a4, a5, a6, a7⟩ := h7
  intro j hj
  rcases (show j = 0 ∨ j = 1 ∨ j = 2 ∨ j = 3 ∨ j = 4 ∨ j = 5 ∨ j = 6 ∨ j = 7 by omega) with rfl | rfl | rfl | rfl | rfl | rfl | rfl | rfl
  · exact (h6 0 (by decide)).trans a0.symm
  · exact (h6 1 (by decide)).trans a1.symm
  · exact (h6 2 (by decide)).trans a2.symm
  · exact a3.symm
  · exact (h6 3 (by decide)).trans a4.symm
  · exact (h6 4 (by decide)).trans a5.symm
  · exact h2.trans a6.symm
  · exact a7.symm
theorem zr_V8 {V W : Nat → Int32} (h : ∀ j, j < 8 → V j = W j) : ∀ {D : Nat} {a : List zr_C} {x y : Nat} {q : List Int32 × Bool}, zr_w D a x y → zr_ev V a q = zr_ev W a q
  | D, [], x, y, q, _ => rfl
  | D, c :: a, x, y, q, hw => by
    show zr_ev V a (zr_e1 V c q) = zr_ev W a (zr_e1 W c q)
    have e : zr_e1 V c q = zr_e1 W c q := by
      by_cases h1 : c.1 = 1
      · have hv := h c.2 ((hw.2.1 (by omega)).2.1 h1)
        obtain ⟨k, v⟩ := c
        dsimp only at h1 hv
        subst h1
        show (V v :: q.1, q.2) = (W v :: q.1, q.2)
        rw [hv]
      · unfold zr_e1
        simp only [if_neg h1]
    rw [e]
    by_cases hc : c.1 < 2
    · exact zr_V8 h (hw.2.1 hc).2.2
    · exact zr_V8 h (hw.2.2 (by omega)).2
theorem zr_V8t {V W : Nat → Int32} (h : ∀ j, j < 8 → V j = W j) {l : zr_L} (hl : zr_ok l) : zr_t V l = zr_t W l := by
  unfold zr_t zr_z zr_v
  rw [zr_V8 h hl.2.1, zr_V8 h hl.2.2]
theorem zr_V8hd {V W : Nat → Int32} (h : ∀ j, j < 8 → V j = W j) : ∀ (ls : List zr_L) (acc cur : Bool), (∀ l, l ∈ ls → zr_ok l) → zr_hd V acc cur ls = zr_hd W acc cur ls
  | [], _, _, _ => rfl
  | l :: ls, acc, cur, hl => by
    unfold zr_hd
    rw [zr_V8t h (hl l (List.mem_cons_self ..)), zr_V8hd h ls _ _ (fun x hx => hl x (List.mem_cons_of_mem _ hx)), zr_V8hd h ls _ _ (fun x hx => hl x (List.mem_cons_of_mem _ hx))]
theorem zr_V8h {V W : Nat → Int32} (h : ∀ j, j < 8 → V j = W j) : ∀ (ls : List zr_L), (∀ l, l ∈ ls → zr_ok l) → zr_h V ls = zr_h W ls
  | [], _ => rfl
  | l :: ls, hl => by
    show zr_hd V false (zr_t V l) ls = zr_hd W false (zr_t W l) ls
    rw [zr_V8t h (hl l (List.mem_cons_self ..)), zr_V8hd h ls _ _ (fun x hx => hl x (List.mem_cons_of_mem _ hx))]
theorem zr_ff_eq {F G : Nat → Bool} : ∀ {n i : Nat}, (∀ j, i ≤ j → j < i + n → F j = G j) → zr_ff F n i = zr_ff G n i
  | 0, _, _ => rfl
  | n + 1, i, h => by
    unfold zr_ff
    rw [h i (by omega) (by omega), zr_ff_eq (fun j h1 h2 => h j (by omega) (by omega))]
theorem zr_V8g {V W : Nat → Int32} (h : ∀ j, j < 8 → V j = W j) {Q : zr_Q} (hQ : zr_QK Q) : zr_gr V Q = zr_gr W Q := by
  unfold zr_gr
  rw [zr_ff_eq (F := fun g => zr_h V (Q.2.2.2 g)) (G := fun g => zr_h W (Q.2.2.2 g)) (fun j h1 h2 => zr_V8h h _ (hQ.2.2 j (Or.inl (by omega))).1)]
theorem zr_V8p {V W : Nat → Int32} (h : ∀ j, j < 8 → V j = W j) {Q : zr_Q} (hQ : zr_QK Q) : zr_pr V Q = zr_pr W Q := by
  unfold zr_pr
  rw [zr_ff_eq (F := fun g => zr_h V (Q.2.2.2 (8 + g))) (G := fun g => zr_h W (Q.2.2.2 (8 + g))) (fun j h1 h2 => zr_V8h h _ (hQ.2.2 (8 + j) (Or.inr ⟨by omega, by omega⟩)).1)]
  cases hf : zr_ff (fun g => zr_h W (Q.2.2.2 (8 + g))) Q.2.1 0 with
  | none => rfl
  | some g =>
    have hg : g < Q.2.1 := by
      have : ∀ n i, zr_ff (fun g => zr_h W (Q.2.2.2 (8 + g))) n i = some g → g < i + n := by
        intro n
        induction n with
        | zero => intro i q; cases q
        | succ n ih =>
          intro i q
          unfold zr_ff at q
          split at q
          · cases q; omega
          · have := ih (i + 1) q; omega
      have := this _ _ hf
      omega
    have he := (hQ.2.2 (8 + g) (Or.inr ⟨by omega, by omega⟩)).2.2 (by omega)
    dsimp only
    unfold zr_z zr_v
    rw [zr_V8 h he]
/-- grade -/
theorem zr_gradeE {b : Bool} {I : zI} {Q : zr_Q} (hQ : zr_QK Q) (hC : zr_QC b I Q) (hM : zr_QM b I Q) (h18 : I 148 18 = nI (zq_lv b)) (hS : zE_S I) : ∃ r I1 I2, f_X10_grade 1 I (zE_R b) = some (r, I1) ∧ f_X11_grade 148 I1 (zE_R b) = some (r, I2) ∧ zr_oG I2 I := by
  unfold f_X10_grade f_X11_grade
  simp only [zE_gC, zE_gM, zE_rC b, (zE_rh b).1, (zE_gH b).1, zw_g_t]
  rcases hS with ⟨h1, h2⟩ | ⟨h1, h2, n, hn, h3, h4, h5, h6, h7⟩
  · rw [if_pos h1]
    refine ⟨_, _, _, rfl, by rw [if_neg (fun q => q h2)], fun _ _ _ _ _ _ => rfl, fun _ _ => rfl⟩
  · rw [if_neg (fun q => zE_10 (h1.symm.trans q))]
    have hV := zr_S_V h3 h6 h7
    obtain ⟨I1, c1, c2⟩ := zr_gradeC (V := I 189) hQ hC (zq_sn1 b) (by decide) hV
    rw [c1, Option.bind_some]
    have e65 : I1 148 65 = 1 := by rw [c2 148 (by decide) (by decide)]; exact h2
    obtain ⟨I2, a1, a2, a3⟩ := zr_again (b := b) (I := I1)
    have hM2 := zr_QM_tr hM (I2 := I2) (fun a q1 q2 => (a2 a (by omega)).trans (c2 a (by omega) (by omega)))
    obtain ⟨r, I3, g1, g2, g3⟩ := zr_gradeM hQ hM2 (by rw [a2 148 (by decide), c2 148 (by decide) (by decide)]; exact h18)
    rw [zr_V8g (W := I 189) (fun j hj => by rw [a3 j hj, c2 189 (by decide) (by decide)]) hQ] at g3
    have fr : zr_oG I3 I := ⟨fun a b1 b2 b3 b4 b5 => (g2.1 a b3 b5).trans ((a2 a b4).trans (c2 a b1 b2)), fun y hy => (g2.2 y hy).trans (by rw [a2 148 (by decide), c2 148 (by decide) (by decide)])⟩
    refine ⟨_, _, I3, rfl, ?_, fr⟩
    dsimp only
    rw [if_pos (show ¬ I1 148 65 = 0 from by rw [e65]; exact zE_10), a1, Option.bind_some, g1, Option.bind_some]
    rcases g3 with ⟨rfl, g4⟩ | ⟨g, rfl, g4⟩
    · rw [g4]
    · rw [g4]
/-- price -/
theorem zr_priceE {b : Bool} {I : zI} {Q : zr_Q} (hQ : zr_QK Q) (hC : zr_QC b I Q) (hM : zr_QM b I Q) (h18 : I 148 18 = nI (zq_lv b)) (hS : zE_S I) : ∃ r I1 I2, f_X10_price 1 I (zE_R b) = some (r, I1) ∧ f_X11_price 148 I1 (zE_R b) = some (r, I2) ∧ zr_oG I2 I := by
  unfold f_X10_price f_X11_price
  simp only [zE_gC, zE_gM, zE_rC b, (zE_rh b).1, (zE_gH b).1, zw_g_t]
  rcases hS with ⟨h1, h2⟩ | ⟨h1, h2, n, hn, h3, h4, h5, h6, h7⟩
  · rw [if_pos h1]
    refine ⟨_, _, _, rfl, by rw [if_neg (fun q => q h2)], fun _ _ _ _ _ _ => rfl, fun _ _ => rfl⟩
  · rw [if_neg (fun q => zE_10 (h1.symm.trans q))]
    have hV := zr_S_V h3 h6 h7
    obtain ⟨I1, c1, c2⟩ := zr_priceC (V := I 189) hQ hC (zq_sn1 b) (by decide) hV
    rw [c1, Option.bind_some]
    have e65 : I1 148 65 = 1 := by rw [c2 148 (by decide) (by decide)]; exact h2
    obtain ⟨I2, a1, a2, a3⟩ := zr_again (b := b) (I := I1)
    have hM2 := zr_QM_tr hM (I2 := I2) (fun a q1 q2 => (a2 a (by omega)).trans (c2 a (by omega) (by omega)))
    obtain ⟨I3, g1, g2⟩ := zr_priceM hQ hM2 (by rw [a2 148 (by decide), c2 148 (by decide) (by decide)]; exact h18)
    rw [zr_V8p (W := I 189) (fun j hj => by rw [a3 j hj, c2 189 (by decide) (by decide)]) hQ] at g1
    have fr : zr_oG I3 I := ⟨fun a b1 b2 b3 b4 b5 => (g2.1 a b3 b5).trans ((a2 a b4).trans (c2 a b1 b2)), fun y hy => (g2.2 y hy).trans (by rw [a2 148 (by decide), c2 148 (by decide) (by decide)])⟩
    refine ⟨_, _, I3, rfl, ?_, fr⟩
    dsimp only
    rw [if_pos (show ¬ I1 148 65 = 0 from by rw [e65]; exact zE_10), a1, Option.bind_some, g1, Option.bind_some]
