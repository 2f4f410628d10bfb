/-! ===== rules: what the class and the model reckon ===== -/
def zr_sg (A B : Nat → Int32) : Nat → List zr_C → Prop
  | _, [] => True
  | p, c :: cs => A p = nI c.1 ∧ B p = nI c.2 ∧ zr_sg A B (p + 1) cs
theorem zr_sg_app {A B : Nat → Int32} : ∀ {p : Nat} {a b : List zr_C}, zr_sg A B p (a ++ b) ↔ (zr_sg A B p a ∧ zr_sg A B (p + a.length) b)
  | p, [], b => ⟨fun h => ⟨trivial, h⟩, fun h => h.2⟩
  | p, c :: a, b => by
    show (A p = nI c.1 ∧ B p = nI c.2 ∧ zr_sg A B (p + 1) (a ++ b)) ↔ ((A p = nI c.1 ∧ B p = nI c.2 ∧ zr_sg A B (p + 1) a) ∧ zr_sg A B (p + (a.length + 1)) b)
    rw [zr_sg_app, show p + 1 + a.length = p + (a.length + 1) by omega]
    exact ⟨fun h => ⟨⟨h.1, h.2.1, h.2.2.1⟩, h.2.2.2⟩, fun h => ⟨h.1.1, h.1.2.1, h.1.2.2, h.2⟩⟩
theorem zr_sg_tr {A B A2 B2 : Nat → Int32} : ∀ {p : Nat} {a : List zr_C}, zr_sg A B p a → (∀ i, p ≤ i → i < p + a.length → A2 i = A i ∧ B2 i = B i) → zr_sg A2 B2 p a
  | p, [], _, _ => trivial
  | p, c :: a, h, h2 => by
    have h3 := h2 p (Nat.le_refl _) (by show p < p + (a.length + 1); omega)
    exact ⟨h3.1.trans h.1, h3.2.trans h.2.1, zr_sg_tr h.2.2 (fun i q1 q2 => h2 i (by omega) (by show i < p + (a.length + 1); omega))⟩
/-- a stack in a row of cells -/
def zr_st (f : Nat → Int32) : List Int32 → Prop
  | [] => True
  | v :: s => f s.length = v ∧ zr_st f s
theorem zr_st_u {f g : Nat → Int32} : ∀ {s : List Int32}, zr_st f s → (∀ j, j < s.length → g j = f j) → zr_st g s
  | [], _, _ => trivial
  | v :: s, h, h2 => ⟨(h2 s.length (Nat.lt_succ_self _)).trans h.1, zr_st_u h.2 (fun j hj => h2 j (Nat.lt_succ_of_lt hj))⟩
/-- the class's reckoner -/
def zr_K (I0 I : zI) (s : List Int32) (b : Bool) : Prop := (∀ a, a ≠ 138 → a ≠ 139 → I a = I0 a) ∧ I 138 1 = nI s.length ∧ I 138 2 = zr_b b ∧ zr_st (I 139) s
theorem zr_push {sw : Bool} {I0 I : zI} {s : List Int32} {b : Bool} (h : zr_K I0 I s b) (hs : s.length < 32) (v : Int32) : ∃ I2, f_X4_push 138 v I (zE_R sw) = some I2 ∧ zr_K I0 I2 (v :: s) b := by
  obtain ⟨h1, h2, h3, h4⟩ := h
  have e1 : zw_u I 139 s.length v 138 1 = nI s.length := (zE_u2 _ _ (by omega)).trans h2
  refine ⟨zw_u (zw_u I 139 s.length v) 138 1 (nI (s.length + 1)), ?_, fun a ha hb => ?_, zE_u1 _ _ _ _, ?_, ?_⟩
  · unfold f_X4_push
    simp only [zE_gC, zE_rC sw, zE_sC, zw_g_t, zw_let_e, h2, zE_cl (show s.length < 2 ^ 31 by omega), zE_in hs (by decide), show Int32.ofNat 32 = nI 32 from rfl, if_neg (nI_ge hs (by decide)), e1, nI_1]
  · rw [zw_u_off _ _ _ ha, zw_u_off _ _ _ hb, h1 a ha hb]
  · rw [zE_u2 _ _ (by omega), zE_u2 _ _ (by omega)]; exact h3
  · rw [zw_u_off _ _ _ (by decide)]
    exact ⟨zE_u1 _ _ _ _, zr_st_u h4 (fun j hj => zE_u2 _ _ (by omega))⟩
theorem zr_pop {sw : Bool} {I0 I : zI} {v : Int32} {s : List Int32} {b : Bool} (h : zr_K I0 I (v :: s) b) (hs : s.length < 32) : ∃ I2, f_X4_pop 138 I (zE_R sw) = some (v, I2) ∧ zr_K I0 I2 s b := by
  obtain ⟨h1, h2, h3, h4⟩ := h
  have h2 : I 138 1 = nI (s.length + 1) := h2
  refine ⟨zw_u I 138 1 (nI s.length), ?_, fun a ha hb => ?_, zE_u1 _ _ _ _, ?_, ?_⟩
  · unfold f_X4_pop
    have e1 : zw_u I 138 1 (nI s.length) 139 s.length = v := by rw [zw_u_off _ _ _ (by decide)]; exact h4.1
    simp only [zE_gC, zE_rC sw, zE_sC, zw_g_t, zw_let_e, h2, nI_pred, zE_u1, zE_cl (show s.length < 2 ^ 31 by omega), zE_in hs (by decide), if_pos (show (0 : Int32) < nI (s.length + 1) from nI_lt (a := 0) (by omega) (by omega)), e1]
  · rw [zw_u_off _ _ _ ha, h1 a ha hb]
  · rw [zE_u2 _ _ (by omega)]; exact h3
  · rw [zw_u_off _ _ _ (by decide)]; exact h4.2
theorem zr_K_br {I0 I : zI} {s : List Int32} {b : Bool} (h : zr_K I0 I s b) (t : Bool) : zr_K I0 (zw_u I 138 2 (zr_b t)) s t := by
  obtain ⟨h1, h2, h3, h4⟩ := h
  refine ⟨fun a ha hb => by rw [zw_u_off _ _ _ ha, h1 a ha hb], ?_, zE_u1 _ _ _ _, ?_⟩
  · rw [zE_u2 _ _ (by omega)]; exact h2
  · rw [zw_u_off _ _ _ (by decide)]; exact h4
theorem zr_n0 {y : Int32} (h : ¬ y = 0) : zw_n0 y = true := decide_eq_true h
theorem zr_divided {I0 I : zI} {s : List Int32} {b : Bool} (h : zr_K I0 I s b) (x y : Int32) : ∃ I2, f_X4_divided 138 x y I = some (zr_dv x y, I2) ∧ zr_K I0 I2 s (b || decide (y = 0)) := by
  unfold f_X4_divided zr_dv
  simp only [zE_gC, zw_g_t, zw_let_e]
  by_cases hy : y = 0
  · rw [if_neg (fun q => q hy), if_pos hy, decide_eq_true hy, Bool.or_true]
    exact ⟨_, rfl, zr_K_br h true⟩
  · rw [if_pos hy, if_neg hy, zr_n0 hy, zw_g_t, decide_eq_false hy, Bool.or_false]
    exact ⟨_, rfl, h⟩
theorem zr_compared {I0 I : zI} {s : List Int32} {b : Bool} {k : Nat} (hk : k = 14 ∨ k = 15 ∨ k = 16 ∨ k = 17) (h : zr_K I0 I s b) (x y : Int32) : ∃ I2, f_X4_compared 138 (nI k) x y I = some (zr_b (!b && zr_kc k x y), I2) ∧ zr_K I0 I2 s false := by
  unfold f_X4_compared zr_kc
  simp only [zE_gC, zw_g_t, zw_let_e, h.2.2.1]
  cases b
  · rw [if_pos (show zr_b false = 0 from rfl)]
    refine ⟨I, ?_, h⟩
    rcases hk with rfl | rfl | rfl | rfl
    · rw [if_pos (show nI 14 = 14 from rfl), if_pos (show (14 : Nat) = 14 from rfl)]
      by_cases c : x < y
      · rw [if_neg (by rw [Int32.le_iff_toInt_le]; rw [Int32.lt_iff_toInt_lt] at c; omega), decide_eq_true c]; rfl
      · rw [if_pos (by rw [Int32.le_iff_toInt_le]; rw [Int32.lt_iff_toInt_lt] at c; omega), decide_eq_false c]; rfl
    · rw [if_neg (show ¬ nI 15 = 14 by decide), if_pos (show nI 15 = 15 from rfl), if_neg (show ¬ (15 : Nat) = 14 by decide), if_pos (show (15 : Nat) = 15 from rfl)]
      by_cases c : x ≤ y
      · rw [if_neg (by rw [Int32.lt_iff_toInt_lt]; rw [Int32.le_iff_toInt_le] at c; omega), decide_eq_true c]; rfl
      · rw [if_pos (by rw [Int32.lt_iff_toInt_lt]; rw [Int32.le_iff_toInt_le] at c; omega), decide_eq_false c]; rfl
    · rw [if_neg (show ¬ nI 16 = 14 by decide), if_neg (show ¬ nI 16 = 15 by decide), if_pos (show nI 16 = 16 from rfl), if_neg (show ¬ (16 : Nat) = 14 by decide), if_neg (show ¬ (16 : Nat) = 15 by decide), if_pos (show (16 : Nat) = 16 from rfl)]
      by_cases c : x = y
      · rw [if_neg (fun q => q c), decide_eq_true c]; rfl
      · rw [if_pos c, decide_eq_false c]; rfl
    · rw [if_neg (show ¬ nI 17 = 14 by decide), if_neg (show ¬ nI 17 = 15 by decide), if_neg (show ¬ nI 17 = 16 by decide), if_neg (show ¬ (17 : Nat) = 14 by decide), if_neg (show ¬ (17 : Nat) = 15 by decide), if_neg (show ¬ (17 : Nat) = 16 by decide)]
      by_cases c : x = y
      · rw [if_pos c, decide_eq_false (fun q => q c)]; rfl
      · rw [if_neg c, decide_eq_true c]; rfl
  · rw [if_neg (show ¬ zr_b true = 0 by decide)]
    exact ⟨_, rfl, zr_K_br h false⟩
theorem zr_b01 (t : Bool) : (if zr_b t = 0 then (0 : Int32) else 1) = zr_b t := by cases t <;> rfl
theorem zr_joined {I0 I : zI} {s : List Int32} {b : Bool} {k : Nat} (hk : zr_jk k) (h : zr_K I0 I s b) (V : Nat → Int32) (w : Nat) (x y : Int32) : ∃ v b2 I2, f_X4_joined 138 (nI k) x y I = some (v, I2) ∧ zr_K I0 I2 s b2 ∧ zr_c1 V (k, w) (y :: x :: s, b) = (v :: s, b2) := by
  have cm : (k = 14 ∨ k = 15 ∨ k = 16 ∨ k = 17) → f_X4_joined 138 (nI k) x y I = (f_X4_compared 138 (nI k) x y I).bind fun q => (if q.1 = 0 then some (0, q.2) else some (1, q.2)) := by
    rintro (rfl | rfl | rfl | rfl)
    · unfold f_X4_joined
      rw [if_neg (show ¬ nI 14 = 8 by decide), if_neg (show ¬ nI 14 = 9 by decide), if_neg (show ¬ nI 14 = 10 by decide), if_neg (show ¬ nI 14 = 11 by decide), if_neg (show ¬ nI 14 = 12 by decide), if_neg (show ¬ nI 14 = 13 by decide), if_pos (show nI 14 = 14 from rfl)]
      simp only [zE_gC, zw_g_t]
    · unfold f_X4_joined
      rw [if_neg (show ¬ nI 15 = 8 by decide), if_neg (show ¬ nI 15 = 9 by decide), if_neg (show ¬ nI 15 = 10 by decide), if_neg (show ¬ nI 15 = 11 by decide), if_neg (show ¬ nI 15 = 12 by decide), if_neg (show ¬ nI 15 = 13 by decide), if_neg (show ¬ nI 15 = 14 by decide), if_pos (show nI 15 = 15 from rfl)]
      simp only [zE_gC, zw_g_t]
    · unfold f_X4_joined
      rw [if_neg (show ¬ nI 16 = 8 by decide), if_neg (show ¬ nI 16 = 9 by decide), if_neg (show ¬ nI 16 = 10 by decide), if_neg (show ¬ nI 16 = 11 by decide), if_neg (show ¬ nI 16 = 12 by decide), if_neg (show ¬ nI 16 = 13 by decide), if_neg (show ¬ nI 16 = 14 by decide), if_neg (show ¬ nI 16 = 15 by decide), if_pos (show nI 16 = 16 from rfl)]
      simp only [zE_gC, zw_g_t]
    · unfold f_X4_joined
      rw [if_neg (show ¬ nI 17 = 8 by decide), if_neg (show ¬ nI 17 = 9 by decide), if_neg (show ¬ nI 17 = 10 by decide), if_neg (show ¬ nI 17 = 11 by decide), if_neg (show ¬ nI 17 = 12 by decide), if_neg (show ¬ nI 17 = 13 by decide), if_neg (show ¬ nI 17 = 14 by decide), if_neg (show ¬ nI 17 = 15 by decide), if_neg (show ¬ nI 17 = 16 by decide), if_pos (show nI 17 = 17 from rfl)]
      simp only [zE_gC, zw_g_t]
  have cmp : (k = 14 ∨ k = 15 ∨ k = 16 ∨ k = 17) → ∃ v b2 I2, f_X4_joined 138 (nI k) x y I = some (v, I2) ∧ zr_K I0 I2 s b2 ∧ zr_c1 V (k, w) (y :: x :: s, b) = (v :: s, b2) := by
    intro hk4
    obtain ⟨I2, q1, q2⟩ := zr_compared hk4 h x y
    refine ⟨zr_b (!b && zr_kc k x y), false, I2, ?_, q2, ?_⟩
    · rw [cm hk4, q1, Option.bind_some]
      generalize (!b && zr_kc k x y) = t
      cases t <;> rfl
    · rcases hk4 with rfl | rfl | rfl | rfl <;> rfl
  rcases hk with rfl | rfl | rfl | rfl | hk | hk | hk | hk | rfl | rfl
  · exact ⟨_, b, I, rfl, h, rfl⟩
  · exact ⟨_, b, I, rfl, h, rfl⟩
  · exact ⟨_, b, I, rfl, h, rfl⟩
  · obtain ⟨I2, q1, q2⟩ := zr_divided h x y
    refine ⟨zr_dv x y, _, I2, ?_, q2, rfl⟩
    unfold f_X4_joined
    rw [if_neg (show ¬ nI 11 = 8 by decide), if_neg (show ¬ nI 11 = 9 by decide), if_neg (show ¬ nI 11 = 10 by decide), if_pos (show nI 11 = 11 from rfl)]
    simp only [zE_gC, zw_g_t, q1, Option.bind_some]
  · exact cmp (Or.inl hk)
  · exact cmp (Or.inr (Or.inl hk))
  · exact cmp (Or.inr (Or.inr (Or.inl hk)))
  · exact cmp (Or.inr (Or.inr (Or.inr hk)))
  · refine ⟨x ||| y, b, I, ?_, h, rfl⟩
    rfl
  · refine ⟨x &&& y, b, I, ?_, h, rfl⟩
    rfl
theorem zr_ne {a b : Nat} (h : a ≠ b) (ha : a < 2 ^ 31) (hb : b < 2 ^ 31) : ¬ nI a = nI b := fun q => h ((nI_eq ha hb).mp q)
/-- the class's variables of a shine -/
def zr_Vc (I : zI) (o j : Nat) : Int32 := if j = 5 then I o 3 else if j = 6 then I o 2 else if j = 7 then I o 4 else I (o + 1) j
theorem zr_valueOf {sw : Bool} {I : zI} {o j : Nat} (hsn : zq_sn sw o) (hj : j < 8) : f_X6_valueOf o (nI j) I (zE_R sw) = some (zr_Vc I o j) := by
  obtain ⟨g1, r1, -, g2, s2, -⟩ := hsn
  unfold f_X6_valueOf zr_Vc
  simp only [g1, r1, g2, s2, zw_g_t]
  rcases (show j = 5 ∨ j = 6 ∨ j = 7 ∨ j < 5 by omega) with rfl | rfl | rfl | h
  · rfl
  · rfl
  · rfl
  · rw [if_neg (show ¬ nI j = (5 : Int32) from zr_ne (b := 5) (by omega) (by omega) (by decide)), if_neg (show ¬ nI j = (6 : Int32) from zr_ne (b := 6) (by omega) (by omega) (by decide)), if_neg (nI_pos (by omega)), if_neg (show ¬ (5 : Int32) ≤ nI j from nI_ge (b := 5) h (by decide)), zE_in (by omega) (by decide), zw_g_t, zE_cl (by omega), if_neg (by omega), if_neg (by omega), if_neg (by omega)]
theorem zr_Vc_tr {I0 I : zI} {s : List Int32} {b : Bool} {o : Nat} (h : zr_K I0 I s b) (ho : o + 1 < 138) (j : Nat) : zr_Vc I o j = zr_Vc I0 o j := by
  unfold zr_Vc
  rw [h.1 o (by omega) (by omega), h.1 (o + 1) (by omega) (by omega)]
theorem zr_stepC {sw : Bool} {I0 I : zI} {o i to cl h2 : Nat} {c : zr_C} {s : List Int32} {b : Bool} (hsn : zq_sn sw o) (ho : o + 1 < 138) (hi : i < to) (hcl : to ≤ cl) (hc5 : cl ≤ 500) (hl : I0 (zE_h sw) 14 = nI cl) (hk : I0 (zE_h sw + 7) i = nI c.1) (hv : I0 (zE_h sw + 8) i = nI c.2) (h : zr_K I0 I s b) (hw : zr_cw 32 [c] s.length h2) (hh : s.length ≤ 32) : ∃ I2, s_X4_reckon_17 138 (zE_h sw) (nI to) o (zE_R sw) (nI i, I) = some (.inl (nI (i + 1), I2)) ∧ zr_K I0 I2 (zr_c1 (zr_Vc I0 o) c (s, b)).1 (zr_c1 (zr_Vc I0 o) c (s, b)).2 := by
  have hb := zE_hb sw
  have e14 : I (zE_h sw) 14 = nI cl := by rw [h.1 _ (by omega) (by omega)]; exact hl
  have ek : I (zE_h sw + 7) i = nI c.1 := by rw [h.1 _ (by omega) (by omega)]; exact hk
  have ev : I (zE_h sw + 8) i = nI c.2 := by rw [h.1 _ (by omega) (by omega)]; exact hv
  obtain ⟨-, -, -, -, -, -, r12, r13⟩ := zE_rH sw sw
  obtain ⟨g0, -, -, -, -, -, -, g7, g8⟩ := zE_gH sw
  obtain ⟨-, -, -, -, -, -, -, s7, s8⟩ := zE_sH sw
  obtain ⟨k, v⟩ := c
  dsimp only at hk hv ek ev
  unfold s_X4_reckon_17 j_X4_reckon_131_17
  simp only [g0, r12, r13, g7, g8, s7, s8, zE_gC, hsn.1, zw_g_t, zw_let_e, e14, if_neg (nI_ge hi (by omega)), if_neg (nI_ge (show i < cl by omega) (by omega)), zE_in (show i < 500 by omega) (by decide), zE_cl (show i < 2 ^ 31 by omega), ek, ev, nI_1]
  rcases hw with ⟨q1, q2, -⟩ | ⟨q1, q2, -⟩ | ⟨q1, q2, -⟩
  · rcases q1 with q1 | ⟨q1, q1b⟩
    · dsimp only at q1
      subst q1
      rw [if_neg (fun q => q rfl)]
      obtain ⟨I2, p1, p2⟩ := zr_push (sw := sw) h q2 (nI v)
      rw [p1]
      exact ⟨_, rfl, p2⟩
    · dsimp only at q1 q1b
      rw [if_pos (show ¬ nI k = (3 : Int32) from zr_ne (b := 3) (by omega) (by omega) (by decide)), if_neg (show ¬ nI k < (28 : Int32) from nI_nlt (b := 28) q1 (by omega))]
      have e1 : nI k - 28 = nI (k - 28) := pk_sub (b := 28) q1
      rw [e1, zr_valueOf hsn (by omega), Option.bind_some, zr_Vc_tr h ho]
      obtain ⟨I2, p1, p2⟩ := zr_push (sw := sw) h q2 (zr_Vc I0 o (k - 28))
      rw [p1]
      refine ⟨_, rfl, ?_⟩
      unfold zr_c1
      dsimp only
      rw [if_neg (by omega), if_pos q1]
      exact p2
  · dsimp only at q1
    subst q1
    rw [if_pos (show ¬ nI 27 = 3 by decide), if_pos (show nI 27 < 28 by decide), if_neg (fun q => q rfl)]
    match s, q2, h, hh with
    | y :: s, _, h, hh =>
      obtain ⟨I2, p1, p2⟩ := zr_pop (sw := sw) h (by have : s.length + 1 ≤ 32 := hh; omega)
      rw [p1, Option.bind_some]
      obtain ⟨I3, p3, p4⟩ := zr_push (sw := sw) p2 (by have : s.length + 1 ≤ 32 := hh; omega) (1 - y)
      dsimp only
      rw [p3]
      exact ⟨_, rfl, p4⟩
  · dsimp only at q1
    have hk1 : k < 27 ∧ k ≠ 3 := by unfold zr_jk at q1; omega
    rw [if_pos (show ¬ nI k = (3 : Int32) from zr_ne (b := 3) hk1.2 (by omega) (by decide)), if_pos (show nI k < (28 : Int32) from nI_lt (b := 28) (by omega) (by decide)), if_pos (show ¬ nI k = (27 : Int32) from zr_ne (b := 27) (by omega) (by omega) (by decide))]
    match s, q2, h, hh with
    | y :: x :: s, _, h, hh =>
      have hh : s.length + 1 + 1 ≤ 32 := hh
      obtain ⟨I2, p1, p2⟩ := zr_pop (sw := sw) h (by show s.length + 1 < 32; omega)
      rw [p1, Option.bind_some]
      dsimp only
      obtain ⟨I3, p3, p4⟩ := zr_pop (sw := sw) p2 (by omega)
      rw [p3, Option.bind_some]
      dsimp only
      obtain ⟨w, b2, I4, p5, p6, p7⟩ := zr_joined q1 p4 (zr_Vc I0 o) v x y
      rw [p5, Option.bind_some]
      dsimp only
      obtain ⟨I5, p8, p9⟩ := zr_push (sw := sw) p6 (by omega) w
      rw [p8, p7]
      exact ⟨_, rfl, p9⟩
theorem zr_cw_cons {D : Nat} {c : zr_C} {cs : List zr_C} {h h2 : Nat} (hw : zr_cw D (c :: cs) h h2) (hD : h ≤ D) : ∃ m, zr_cw D [c] h m ∧ zr_cw D cs m h2 ∧ m ≤ D := by
  rcases hw with ⟨q1, q2, q3⟩ | ⟨q1, q2, q3⟩ | ⟨q1, q2, q3⟩
  · exact ⟨h + 1, Or.inl ⟨q1, q2, rfl⟩, q3, by omega⟩
  · exact ⟨h, Or.inr (Or.inl ⟨q1, q2, rfl⟩), q3, by omega⟩
  · exact ⟨h - 1, Or.inr (Or.inr ⟨q1, q2, rfl⟩), q3, by omega⟩
theorem zr_c1_len {V : Nat → Int32} {c : zr_C} {D h2 : Nat} {s : List Int32} {b : Bool} (hw : zr_cw D [c] s.length h2) : (zr_c1 V c (s, b)).1.length = h2 := by
  obtain ⟨k, v⟩ := c
  unfold zr_c1
  rcases hw with ⟨q1, q2, q3⟩ | ⟨q1, q2, q3⟩ | ⟨q1, q2, q3⟩
  · have q3 : s.length + 1 = h2 := q3
    dsimp only at q1 ⊢
    rcases q1 with q1 | ⟨q1, -⟩
    · rw [if_pos q1]; exact q3
    · rw [if_neg (by omega), if_pos q1]; exact q3
  · have q3 : s.length = h2 := q3
    dsimp only at q1 ⊢
    rw [if_neg (by omega), if_neg (by omega)]
    match s, q2, q3 with
    | y :: s, _, q3 => dsimp only; rw [if_pos q1]; exact q3
  · have q3 : s.length - 1 = h2 := q3
    dsimp only at q1 ⊢
    have hk1 : k < 27 ∧ k ≠ 3 := by unfold zr_jk at q1; omega
    rw [if_neg hk1.2, if_neg (by omega)]
    match s, q2, q3 with
    | y :: x :: s, _, q3 =>
      have q3 : s.length + 1 = h2 := q3
      dsimp only
      rw [if_neg (by omega)]
      split
      · exact q3
      · split
        · exact q3
        · split
          · exact q3
          · split
            · exact q3
            · split
              · exact q3
              · split
                · exact q3
                · exact q3
theorem zr_loopC {sw : Bool} {I0 : zI} {o to cl : Nat} (hsn : zq_sn sw o) (ho : o + 1 < 138) (hcl : to ≤ cl) (hc5 : cl ≤ 500) (hl : I0 (zE_h sw) 14 = nI cl) : ∀ (cs : List zr_C) (n i h2 : Nat) (I : zI) (s : List Int32) (b : Bool), cs.length < n → i + cs.length = to → zr_sg (I0 (zE_h sw + 7)) (I0 (zE_h sw + 8)) i cs → zr_K I0 I s b → zr_cw 32 cs s.length h2 → s.length ≤ 32 → ∃ I2, zw_it (s_X4_reckon_17 138 (zE_h sw) (nI to) o (zE_R sw)) n (nI i, I) = some I2 ∧ zr_K I0 I2 (zr_cev (zr_Vc I0 o) cs (s, b)).1 (zr_cev (zr_Vc I0 o) cs (s, b)).2
  | cs, 0, i, h2, I, s, b, hn, _, _, _, _, _ => absurd hn (Nat.not_lt_zero _)
  | [], n + 1, i, h2, I, s, b, hn, hi, hs, hK, hw, hh => by
    have hi : i = to := hi
    refine ⟨I, zE_it0 n ?_, hK⟩
    unfold s_X4_reckon_17
    rw [if_pos (nI_le (show to ≤ i by omega) (by omega))]
  | c :: cs, n + 1, i, h2, I, s, b, hn, hi, hs, hK, hw, hh => by
    have hi : i + (cs.length + 1) = to := hi
    have hn : cs.length + 1 < n + 1 := hn
    obtain ⟨m, w1, w2, w3⟩ := zr_cw_cons hw hh
    obtain ⟨I2, p1, p2⟩ := zr_stepC hsn ho (show i < to by omega) hcl hc5 hl hs.1 hs.2.1 hK w1 hh
    have el := zr_c1_len (V := zr_Vc I0 o) (b := b) w1
    obtain ⟨I3, p3, p4⟩ := zr_loopC hsn ho hcl hc5 hl cs n (i + 1) h2 I2 _ _ (by omega) (by omega) hs.2.2 p2 (by rw [el]; exact w2) (by rw [el]; exact w3)
    exact ⟨I3, (zE_it1 n p1).trans p3, p4⟩
theorem zr_max0 {n : Nat} (h : n < 2 ^ 31) : (if 0 < nI n then nI n else 0) = nI n := by
  by_cases h0 : n = 0
  · subst h0; rfl
  · rw [if_pos (show (0 : Int32) < nI n from nI_lt (a := 0) (by omega) h)]
def zr_oK (I2 I : zI) : Prop := ∀ a, a ≠ 138 → a ≠ 139 → I2 a = I a
theorem zr_reckon {sw : Bool} {I : zI} {o w to cl : Nat} {cs : List zr_C} {v : Int32} {b : Bool} (hsn : zq_sn sw o) (ho : o + 1 < 138) (hcl : to ≤ cl) (hc5 : cl ≤ 500) (hl : I (zE_h sw) 14 = nI cl) (hto : w + cs.length = to) (hs : zr_sg (I (zE_h sw + 7)) (I (zE_h sw + 8)) w cs) (hw : zr_cw 32 cs 0 1) (he : zr_cev (zr_Vc I o) cs ([], false) = ([v], b)) : ∃ I2, f_X4_reckon 138 (zE_h sw) (nI w) (nI to) o I (zE_R sw) = some (v, I2) ∧ zr_oK I2 I ∧ I2 138 2 = zr_b b := by
  have hb := zE_hb sw
  obtain ⟨I1, e1⟩ : ∃ I1, I1 = zw_u (zw_u I 138 1 0) 138 2 0 := ⟨_, rfl⟩
  have f1 : zr_oK I1 I := fun a ha hb => by rw [e1, zw_u_off _ _ _ ha, zw_u_off _ _ _ ha]
  have hK : zr_K I1 I1 [] false := ⟨fun _ _ _ => rfl, by rw [e1, zE_u2 _ _ (by omega), zE_u1]; rfl, by rw [e1, zE_u1]; rfl, trivial⟩
  have eV : zr_Vc I1 o = zr_Vc I o := by
    funext j
    unfold zr_Vc
    rw [f1 o (by omega) (by omega), f1 (o + 1) (by omega) (by omega)]
  obtain ⟨I2, p1, p2⟩ := zr_loopC (I0 := I1) hsn ho hcl hc5 (by rw [f1 _ (by omega) (by omega)]; exact hl) cs 1000000 w 1 I1 [] false (by omega) hto (by rw [f1 _ (by omega) (by omega), f1 (zE_h sw + 8) (by omega) (by omega)]; exact hs) hK hw (by decide)
  rw [eV, he] at p2
  obtain ⟨I3, p3, p4⟩ := zr_pop (sw := sw) p2 (by decide)
  refine ⟨I3, ?_, fun a ha hb => (p4.1 a ha hb).trans (f1 a ha hb), p4.2.2.1⟩
  unfold f_X4_reckon j_X4_reckon_137
  simp only [zE_gC, zw_g_t, zw_let_e, zr_max0 (show w < 2 ^ 31 by omega), ← e1, p1, Option.bind_some, p3]
/-- a rule as the class has it: an E (none of a grade) and literals -/
def zr_RC (sw : Bool) (I : zI) (ro cl : Nat) (e : List zr_C) (ls : List zr_L) : Prop := ∃ w c n, I ro 0 = nI w ∧ I ro 1 = nI c ∧ I ro 2 = nI n ∧ c = w + e.length ∧ n = c + (zr_cc ls).length ∧ n ≤ cl ∧ zr_sg (I (zE_h sw + 7)) (I (zE_h sw + 8)) w (e.map zr_ck) ∧ zr_sg (I (zE_h sw + 7)) (I (zE_h sw + 8)) c (zr_cc ls)
theorem zr_cc_ne {ls : List zr_L} (h : ls ≠ []) : 1 ≤ (zr_cc ls).length := by
  match ls, h with
  | l :: ls, _ =>
    have := zr_lc_ne l
    show 1 ≤ (zr_lc l ++ zr_cr false ls).length
    rw [List.length_append]; omega
theorem zr_holdsC {sw : Bool} {I : zI} {V : Nat → Int32} {o ro cl : Nat} {e : List zr_C} {ls : List zr_L} (hsn : zq_sn sw o) (ho : o + 1 < 138) (hro : zw_gc ro 5 = true) (hc5 : cl ≤ 500) (hl : I (zE_h sw) 14 = nI cl) (hV : ∀ j, j < 8 → zr_Vc I o (zr_cv j) = V j) (h : zr_RC sw I ro cl e ls) (hls : ∀ l, l ∈ ls → zr_ok l) : ∃ I2, f_X4_holds 138 (zE_h sw) ro o I (zE_R sw) = some (zr_b (zr_h V ls), I2) ∧ zr_oK I2 I := by
  obtain ⟨w, c, n, h0, h1, h2, hc, hn, hcl, hs1, hs2⟩ := h
  unfold f_X4_holds j_X4_holds_28
  simp only [hro, zE_gC, zw_g_t, h1, h2]
  by_cases hz : ls = []
  · subst hz
    have hn : n = c := hn
    rw [if_pos (nI_le (show n ≤ c by omega) (by omega))]
    exact ⟨_, rfl, fun _ _ _ => rfl⟩
  · have := zr_cc_ne hz
    rw [if_neg (nI_ge (show c < n by omega) (by omega))]
    obtain ⟨I2, p1, p2, -⟩ := zr_reckon hsn ho hcl hc5 hl hn.symm hs2 (zr_cc_w ls hz hls) (zr_cc_ev hV ls hz hls)
    rw [p1, Option.bind_some]
    generalize zr_h V ls = t
    cases t
    · exact ⟨_, rfl, p2⟩
    · exact ⟨_, rfl, p2⟩
theorem zr_worthC {sw : Bool} {I : zI} {V : Nat → Int32} {o ro cl : Nat} {e : List zr_C} {ls : List zr_L} (hsn : zq_sn sw o) (ho : o + 1 < 138) (hro : zw_gc ro 5 = true) (hc5 : cl ≤ 500) (hl : I (zE_h sw) 14 = nI cl) (hV : ∀ j, j < 8 → zr_Vc I o (zr_cv j) = V j) (h : zr_RC sw I ro cl e ls) (he : zr_E e) : ∃ I2, f_X4_worth 138 (zE_h sw) ro o I (zE_R sw) = some (if zr_z V e = true then 0 else zr_v V e, I2) ∧ zr_oK I2 I := by
  obtain ⟨w, c, n, h0, h1, h2, hc, hn, hcl, hs1, hs2⟩ := h
  unfold f_X4_worth
  simp only [hro, zE_gC, zw_g_t, h0, h1]
  have ew := zr_cw_map (zr_w_up 0 32 (by decide) he)
  obtain ⟨I2, p1, p2, p3⟩ := zr_reckon (cs := e.map zr_ck) (to := c) (v := zr_v V e) (b := zr_z V e) hsn ho (by omega) hc5 hl (by rw [List.length_map]; exact hc.symm) hs1 ew (by rw [zr_cev_ev hV he (Nat.zero_le _), zr_E_ev he, Bool.false_or])
  rw [p1, Option.bind_some]
  dsimp only
  simp only [p3]
  generalize zr_z V e = t
  cases t
  · exact ⟨_, rfl, p2⟩
  · exact ⟨_, rfl, p2⟩
