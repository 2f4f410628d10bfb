/-! ===== rules: code, what it is worth, conditions (pure) ===== -/
/-- code: (0, v) a number, (1, j) the model's variable j, (2, 0) .. (5, 0) + - * / -/
abbrev zr_C : Type := Nat × Nat
/-- the class's variable for the model's -/
def zr_cv (j : Nat) : Nat := if j = 3 then 5 else if j = 4 then 3 else if j = 5 then 4 else j
/-- what the class writes for it -/
def zr_ck (c : zr_C) : zr_C := if c.1 = 0 then (3, c.2) else if c.1 = 1 then (28 + zr_cv c.2, 0) else (c.1 + 6, 0)
def zr_dv (x y : Int32) : Int32 := if y = 0 then 0 else x / y
def zr_b (t : Bool) : Int32 := if t = true then 1 else 0
/-- one entry of the model's code, over a stack and whether there was a division by 0 -/
def zr_e1 (V : Nat → Int32) (c : zr_C) (q : List Int32 × Bool) : List Int32 × Bool :=
  if c.1 = 0 then (nI c.2 :: q.1, q.2) else if c.1 = 1 then (V c.2 :: q.1, q.2) else
  match q.1 with
  | y :: x :: s => if c.1 = 2 then ((x + y) :: s, q.2) else if c.1 = 3 then ((x - y) :: s, q.2) else if c.1 = 4 then ((x * y) :: s, q.2) else (zr_dv x y :: s, q.2 || decide (y = 0))
  | _ => q
def zr_ev (V : Nat → Int32) : List zr_C → List Int32 × Bool → List Int32 × Bool
  | [], q => q
  | c :: cs, q => zr_ev V cs (zr_e1 V c q)
/-- from height h to h2, never above D -/
def zr_w (D : Nat) : List zr_C → Nat → Nat → Prop
  | [], h, h2 => h = h2
  | c :: cs, h, h2 => c.1 ≤ 5 ∧ (c.1 < 2 → h < D ∧ (c.1 = 1 → c.2 < 8) ∧ zr_w D cs (h + 1) h2) ∧ (2 ≤ c.1 → 2 ≤ h ∧ zr_w D cs (h - 1) h2)
theorem zr_w_app {D : Nat} : ∀ {a b : List zr_C} {h m h2 : Nat}, zr_w D a h m → zr_w D b m h2 → zr_w D (a ++ b) h h2
  | [], b, h, m, h2, h1, h3 => by cases h1; exact h3
  | c :: a, b, h, m, h2, h1, h3 => ⟨h1.1, fun q => ⟨(h1.2.1 q).1, (h1.2.1 q).2.1, zr_w_app (h1.2.1 q).2.2 h3⟩, fun q => ⟨(h1.2.2 q).1, zr_w_app (h1.2.2 q).2 h3⟩⟩
theorem zr_w_up {D : Nat} (k D2 : Nat) (hD : D + k ≤ D2) : ∀ {a : List zr_C} {h h2 : Nat}, zr_w D a h h2 → zr_w D2 a (h + k) (h2 + k)
  | [], h, h2, h1 => by cases h1; rfl
  | c :: a, h, h2, h1 => ⟨h1.1, fun q => ⟨by have := (h1.2.1 q).1; omega, (h1.2.1 q).2.1, by
      have h3 := zr_w_up k D2 hD (h1.2.1 q).2.2
      rwa [show h + 1 + k = h + k + 1 by omega] at h3⟩, fun q => ⟨by have := (h1.2.2 q).1; omega, by
      have h3 := zr_w_up k D2 hD (h1.2.2 q).2
      have h4 := (h1.2.2 q).1
      rwa [show h - 1 + k = h + k - 1 by omega] at h3⟩⟩
/-- the height stays as it is told -/
theorem zr_e1_len {V : Nat → Int32} {c : zr_C} {q : List Int32 × Bool} (h : c.1 < 2) : (zr_e1 V c q).1.length = q.1.length + 1 := by
  unfold zr_e1
  by_cases h0 : c.1 = 0
  · rw [if_pos h0]; rfl
  · rw [if_neg h0, if_pos (by omega)]; rfl
theorem zr_e1_len2 {V : Nat → Int32} {c : zr_C} {q : List Int32 × Bool} (h : 2 ≤ c.1) (h2 : 2 ≤ q.1.length) : (zr_e1 V c q).1.length = q.1.length - 1 := by
  unfold zr_e1
  rw [if_neg (by omega), if_neg (by omega)]
  obtain ⟨s, b⟩ := q
  match s, h2 with
  | y :: x :: s, _ =>
    dsimp only
    by_cases c2 : c.1 = 2
    · rw [if_pos c2]; rfl
    · rw [if_neg c2]
      by_cases c3 : c.1 = 3
      · rw [if_pos c3]; rfl
      · rw [if_neg c3]
        by_cases c4 : c.1 = 4
        · rw [if_pos c4]; rfl
        · rw [if_neg c4]; rfl
theorem zr_ev_len {V : Nat → Int32} {D : Nat} : ∀ {a : List zr_C} {h h2 : Nat} {q : List Int32 × Bool}, zr_w D a h h2 → q.1.length = h → (zr_ev V a q).1.length = h2
  | [], h, h2, q, h1, hq => by cases h1; exact hq
  | c :: a, h, h2, q, h1, hq => by
    show (zr_ev V a (zr_e1 V c q)).1.length = h2
    by_cases hc : c.1 < 2
    · exact zr_ev_len (h1.2.1 hc).2.2 ((zr_e1_len hc).trans (by rw [hq]))
    · obtain ⟨h3, h4⟩ := h1.2.2 (by omega)
      exact zr_ev_len h4 ((zr_e1_len2 (by omega) (by omega)).trans (by rw [hq]))
/-- what lies below is left alone -/
theorem zr_e1_below {V : Nat → Int32} {c : zr_C} (s r : List Int32) (b e : Bool) (h : 2 ≤ c.1 → 2 ≤ s.length) : zr_e1 V c (s ++ r, b || e) = ((zr_e1 V c (s, e)).1 ++ r, b || (zr_e1 V c (s, e)).2) := by
  unfold zr_e1
  dsimp only
  by_cases h0 : c.1 = 0
  · rw [if_pos h0, if_pos h0]; rfl
  rw [if_neg h0, if_neg h0]
  by_cases h1 : c.1 = 1
  · rw [if_pos h1, if_pos h1]; rfl
  rw [if_neg h1, if_neg h1]
  match s, h (by omega) with
  | y :: x :: s, _ =>
    show (if c.1 = 2 then ((x + y) :: (s ++ r), b || e) else if c.1 = 3 then ((x - y) :: (s ++ r), b || e) else if c.1 = 4 then ((x * y) :: (s ++ r), b || e) else (zr_dv x y :: (s ++ r), (b || e) || decide (y = 0))) = _
    by_cases c2 : c.1 = 2
    · rw [if_pos c2]; dsimp only; rw [if_pos c2]; rfl
    · rw [if_neg c2]
      by_cases c3 : c.1 = 3
      · rw [if_pos c3]; dsimp only; rw [if_neg c2, if_pos c3]; rfl
      · rw [if_neg c3]
        by_cases c4 : c.1 = 4
        · rw [if_pos c4]; dsimp only; rw [if_neg c2, if_neg c3, if_pos c4]; rfl
        · rw [if_neg c4]; dsimp only; rw [if_neg c2, if_neg c3, if_neg c4, Bool.or_assoc]; rfl
theorem zr_ev_below {V : Nat → Int32} {D : Nat} : ∀ {a : List zr_C} {h h2 : Nat} (s r : List Int32) (b e : Bool), zr_w D a h h2 → s.length = h → zr_ev V a (s ++ r, b || e) = ((zr_ev V a (s, e)).1 ++ r, b || (zr_ev V a (s, e)).2)
  | [], h, h2, s, r, b, e, h1, hq => rfl
  | c :: a, h, h2, s, r, b, e, h1, hq => by
    show zr_ev V a (zr_e1 V c (s ++ r, b || e)) = ((zr_ev V a (zr_e1 V c (s, e))).1 ++ r, b || (zr_ev V a (zr_e1 V c (s, e))).2)
    rw [zr_e1_below s r b e (fun q => by rw [hq]; exact (h1.2.2 q).1)]
    by_cases hc : c.1 < 2
    · exact zr_ev_below _ r b _ (h1.2.1 hc).2.2 ((zr_e1_len hc).trans (by rw [← hq]))
    · obtain ⟨h3, h4⟩ := h1.2.2 (by omega)
      exact zr_ev_below _ r b _ h4 ((zr_e1_len2 (by omega) (by rw [hq]; exact h3)).trans (by rw [← hq]))
theorem zr_ev_app {V : Nat → Int32} : ∀ (a b : List zr_C) (q : List Int32 × Bool), zr_ev V (a ++ b) q = zr_ev V b (zr_ev V a q)
  | [], b, q => rfl
  | c :: a, b, q => zr_ev_app a b (zr_e1 V c q)
/-- an E: its worth, and whether there was a division by 0 -/
def zr_E (a : List zr_C) : Prop := zr_w 15 a 0 1
def zr_v (V : Nat → Int32) (a : List zr_C) : Int32 := (zr_ev V a ([], false)).1.headD 0
def zr_z (V : Nat → Int32) (a : List zr_C) : Bool := (zr_ev V a ([], false)).2
theorem zr_E_ev {V : Nat → Int32} {a : List zr_C} (h : zr_E a) (r : List Int32) (b : Bool) : zr_ev V a (r, b) = (zr_v V a :: r, b || zr_z V a) := by
  have h1 := zr_ev_below (V := V) [] r b false h rfl
  have h2 := zr_ev_len (V := V) (q := ([], false)) h rfl
  rw [Bool.or_false] at h1
  refine h1.trans ?_
  unfold zr_v zr_z
  match (zr_ev V a ([], false)).1, h2 with
  | [x], _ => rfl
/-- once there was one, there was one -/
theorem zr_e1_z {V : Nat → Int32} {c : zr_C} {q : List Int32 × Bool} (h : q.2 = true) : (zr_e1 V c q).2 = true := by
  obtain ⟨s, b⟩ := q
  cases h
  unfold zr_e1
  dsimp only
  split
  · rfl
  · split
    · rfl
    · split
      · split
        · rfl
        · split
          · rfl
          · split
            · rfl
            · rfl
      · rfl
theorem zr_ev_z {V : Nat → Int32} : ∀ {a : List zr_C} {q : List Int32 × Bool}, q.2 = true → (zr_ev V a q).2 = true
  | [], q, h => h
  | c :: a, q, h => zr_ev_z (a := a) (zr_e1_z h)
/-! the class's code: (kind, value) -/
def zr_kc (k : Nat) (x y : Int32) : Bool := if k = 14 then decide (x < y) else if k = 15 then decide (x ≤ y) else if k = 16 then decide (x = y) else decide (¬ x = y)
def zr_c1 (V : Nat → Int32) (c : zr_C) (q : List Int32 × Bool) : List Int32 × Bool :=
  if c.1 = 3 then (nI c.2 :: q.1, q.2) else if 28 ≤ c.1 then (V (c.1 - 28) :: q.1, q.2)
  else match q.1 with
  | [] => q
  | y :: s => if c.1 = 27 then ((1 - y) :: s, q.2) else match s with
    | [] => q
    | x :: s => if c.1 = 8 then ((x + y) :: s, q.2) else if c.1 = 9 then ((x - y) :: s, q.2) else if c.1 = 10 then ((x * y) :: s, q.2) else if c.1 = 11 then (zr_dv x y :: s, q.2 || decide (y = 0)) else if c.1 = 25 then ((x ||| y) :: s, q.2) else if c.1 = 26 then ((x &&& y) :: s, q.2) else (zr_b (!q.2 && zr_kc c.1 x y) :: s, false)
def zr_cev (V : Nat → Int32) : List zr_C → List Int32 × Bool → List Int32 × Bool
  | [], q => q
  | c :: cs, q => zr_cev V cs (zr_c1 V c q)
def zr_jk (k : Nat) : Prop := k = 8 ∨ k = 9 ∨ k = 10 ∨ k = 11 ∨ k = 14 ∨ k = 15 ∨ k = 16 ∨ k = 17 ∨ k = 25 ∨ k = 26
/-- from height h to h2, never above D -/
def zr_cw (D : Nat) : List zr_C → Nat → Nat → Prop
  | [], h, h2 => h = h2
  | c :: cs, h, h2 => ((c.1 = 3 ∨ (28 ≤ c.1 ∧ c.1 < 36)) ∧ h < D ∧ zr_cw D cs (h + 1) h2) ∨ (c.1 = 27 ∧ 1 ≤ h ∧ zr_cw D cs h h2) ∨ (zr_jk c.1 ∧ 2 ≤ h ∧ zr_cw D cs (h - 1) h2)
theorem zr_cw_app {D : Nat} : ∀ {a b : List zr_C} {h m h2 : Nat}, zr_cw D a h m → zr_cw D b m h2 → zr_cw D (a ++ b) h h2
  | [], b, h, m, h2, h1, h3 => by cases h1; exact h3
  | c :: a, b, h, m, h2, h1, h3 => by
    rcases h1 with ⟨q1, q2, q3⟩ | ⟨q1, q2, q3⟩ | ⟨q1, q2, q3⟩
    · exact Or.inl ⟨q1, q2, zr_cw_app q3 h3⟩
    · exact Or.inr (Or.inl ⟨q1, q2, zr_cw_app q3 h3⟩)
    · exact Or.inr (Or.inr ⟨q1, q2, zr_cw_app q3 h3⟩)
theorem zr_cv8 : ∀ j, j < 8 → zr_cv j < 8 := by decide
theorem zr_cw_map {D : Nat} : ∀ {a : List zr_C} {h h2 : Nat}, zr_w D a h h2 → zr_cw D (a.map zr_ck) h h2
  | [], h, h2, h1 => h1
  | c :: a, h, h2, h1 => by
    show zr_cw D (zr_ck c :: a.map zr_ck) h h2
    by_cases hc : c.1 < 2
    · obtain ⟨q1, q2, q3⟩ := h1.2.1 hc
      refine Or.inl ⟨?_, q1, zr_cw_map q3⟩
      unfold zr_ck
      by_cases h0 : c.1 = 0
      · rw [if_pos h0]; exact Or.inl rfl
      · rw [if_neg h0, if_pos (by omega)]
        have := zr_cv8 c.2 (q2 (by omega))
        exact Or.inr ⟨by show 28 ≤ 28 + zr_cv c.2; omega, by show 28 + zr_cv c.2 < 36; omega⟩
    · obtain ⟨q1, q2⟩ := h1.2.2 (by omega)
      refine Or.inr (Or.inr ⟨?_, q1, zr_cw_map q2⟩)
      have h5 := h1.1
      unfold zr_ck
      rw [if_neg (by omega), if_neg (by omega)]
      show zr_jk (c.1 + 6)
      unfold zr_jk
      omega
theorem zr_cev_app {V : Nat → Int32} : ∀ (a b : List zr_C) (q : List Int32 × Bool), zr_cev V (a ++ b) q = zr_cev V b (zr_cev V a q)
  | [], b, q => rfl
  | c :: a, b, q => zr_cev_app a b (zr_c1 V c q)
/-- one entry: the class's way is the model's -/
theorem zr_c1_e1 {V W : Nat → Int32} (hV : ∀ j, j < 8 → W (zr_cv j) = V j) {c : zr_C} {q : List Int32 × Bool} (h5 : c.1 ≤ 5) (h1 : c.1 = 1 → c.2 < 8) (h2 : 2 ≤ c.1 → 2 ≤ q.1.length) : zr_c1 W (zr_ck c) q = zr_e1 V c q := by
  obtain ⟨k, v⟩ := c
  dsimp only at h5 h1 h2
  unfold zr_c1 zr_ck zr_e1
  dsimp only
  by_cases k0 : k = 0
  · rw [if_pos k0, if_pos k0]; rfl
  rw [if_neg k0, if_neg k0]
  by_cases k1 : k = 1
  · rw [if_pos k1, if_pos k1]
    dsimp only
    rw [if_neg (by omega), if_pos (by omega), show 28 + zr_cv v - 28 = zr_cv v by omega, hV v (h1 k1)]
  rw [if_neg k1, if_neg k1]
  dsimp only
  rw [if_neg (by omega), if_neg (by omega)]
  obtain ⟨s, b⟩ := q
  match s, h2 (by omega) with
  | y :: x :: s, _ =>
    dsimp only
    rw [if_neg (by omega)]
    rcases (show k = 2 ∨ k = 3 ∨ k = 4 ∨ k = 5 by omega) with rfl | rfl | rfl | rfl <;> rfl
theorem zr_cev_ev {V W : Nat → Int32} (hV : ∀ j, j < 8 → W (zr_cv j) = V j) {D : Nat} : ∀ {a : List zr_C} {h h2 : Nat} {q : List Int32 × Bool}, zr_w D a h h2 → h ≤ q.1.length → zr_cev W (a.map zr_ck) q = zr_ev V a q
  | [], h, h2, q, h1, hq => rfl
  | c :: a, h, h2, q, h1, hq => by
    show zr_cev W (a.map zr_ck) (zr_c1 W (zr_ck c) q) = zr_ev V a (zr_e1 V c q)
    by_cases hc : c.1 < 2
    · obtain ⟨q1, q2, q3⟩ := h1.2.1 hc
      rw [zr_c1_e1 hV h1.1 q2 (fun h => by omega)]
      exact zr_cev_ev hV q3 (by rw [zr_e1_len hc]; omega)
    · obtain ⟨q1, q2⟩ := h1.2.2 (by omega)
      rw [zr_c1_e1 hV h1.1 (fun h => by omega) (fun h => by omega)]
      exact zr_cev_ev hV q2 (by rw [zr_e1_len2 (by omega) (by omega)]; omega)
/-! literals: or, not, sort, left, right -/
abbrev zr_L : Type := Bool × Bool × Nat × List zr_C × List zr_C
def zr_ok (l : zr_L) : Prop := l.2.2.1 < 4 ∧ zr_E l.2.2.2.1 ∧ zr_E l.2.2.2.2
def zr_sk (n : Nat) : Nat := if n = 0 then 16 else if n = 1 then 17 else if n = 2 then 14 else 15
/-- what the class writes for a literal -/
def zr_lc (l : zr_L) : List zr_C := l.2.2.2.1.map zr_ck ++ (l.2.2.2.2.map zr_ck ++ ((zr_sk l.2.2.1, 0) :: (if l.2.1 = true then [(27, 0)] else [])))
/-- for those behind the first; w: an 'or' waits -/
def zr_cr : Bool → List zr_L → List zr_C
  | w, [] => if w = true then [(25, 0)] else []
  | w, l :: ls => if l.1 = true then (if w = true then [(25, 0)] else []) ++ (zr_lc l ++ zr_cr true ls) else zr_lc l ++ ((26, 0) :: zr_cr w ls)
def zr_cc : List zr_L → List zr_C
  | [] => []
  | l :: ls => zr_lc l ++ zr_cr false ls
/-- is a literal true? -/
def zr_cm (n : Nat) (x y : Int32) : Bool := if n = 0 then decide (x = y) else if n = 1 then decide (¬ x = y) else if n = 2 then decide (x < y) else decide (x ≤ y)
def zr_t (V : Nat → Int32) (l : zr_L) : Bool := ((!(zr_z V l.2.2.2.1 || zr_z V l.2.2.2.2)) && zr_cm l.2.2.1 (zr_v V l.2.2.2.1) (zr_v V l.2.2.2.2)) != l.2.1
def zr_hd (V : Nat → Int32) : Bool → Bool → List zr_L → Bool
  | acc, cur, [] => acc || cur
  | acc, cur, l :: ls => if l.1 = true then zr_hd V (acc || cur) (zr_t V l) ls else zr_hd V acc (cur && zr_t V l) ls
/-- does the condition hold? -/
def zr_h (V : Nat → Int32) : List zr_L → Bool
  | [] => true
  | l :: ls => zr_hd V false (zr_t V l) ls
theorem zr_kc_cm : ∀ n, n < 4 → ∀ x y, zr_kc (zr_sk n) x y = zr_cm n x y := by
  intro n hn x y
  rcases (show n = 0 ∨ n = 1 ∨ n = 2 ∨ n = 3 by omega) with rfl | rfl | rfl | rfl <;> rfl
theorem zr_lc_ev {V W : Nat → Int32} (hV : ∀ j, j < 8 → W (zr_cv j) = V j) {l : zr_L} (hl : zr_ok l) (s : List Int32) : zr_cev W (zr_lc l) (s, false) = (zr_b (zr_t V l) :: s, false) := by
  obtain ⟨h1, h2, h3⟩ := hl
  unfold zr_lc
  rw [zr_cev_app, zr_cev_app, zr_cev_ev hV h2 (Nat.zero_le _), zr_E_ev h2, zr_cev_ev hV h3 (Nat.zero_le _), zr_E_ev h3, Bool.false_or]
  have e1 : zr_c1 W (zr_sk l.2.2.1, 0) (zr_v V l.2.2.2.2 :: zr_v V l.2.2.2.1 :: s, zr_z V l.2.2.2.1 || zr_z V l.2.2.2.2) = (zr_b (!(zr_z V l.2.2.2.1 || zr_z V l.2.2.2.2) && zr_cm l.2.2.1 (zr_v V l.2.2.2.1) (zr_v V l.2.2.2.2)) :: s, false) := by
    rw [← zr_kc_cm _ h1]
    rcases (show l.2.2.1 = 0 ∨ l.2.2.1 = 1 ∨ l.2.2.1 = 2 ∨ l.2.2.1 = 3 by omega) with e | e | e | e <;> rw [e] <;> rfl
  show zr_cev W (if l.2.1 = true then [(27, 0)] else []) (zr_c1 W (zr_sk l.2.2.1, 0) _) = _
  rw [e1]
  unfold zr_t
  generalize (!(zr_z V l.2.2.2.1 || zr_z V l.2.2.2.2) && zr_cm l.2.2.1 (zr_v V l.2.2.2.1) (zr_v V l.2.2.2.2)) = t
  cases l.2.1
  · rw [if_neg (by decide)]
    cases t <;> rfl
  · rw [if_pos rfl]
    show ((1 - zr_b t) :: s, false) = _
    cases t <;> rfl
theorem zr_lc_w {l : zr_L} (hl : zr_ok l) {h D : Nat} (hD : h + 16 ≤ D) : zr_cw D (zr_lc l) h (h + 1) := by
  obtain ⟨h1, h2, h3⟩ := hl
  have a1 := zr_cw_map (zr_w_up h D (by omega) h2)
  have a2 := zr_cw_map (zr_w_up (h + 1) D (by omega) h3)
  rw [show 0 + h = h by omega, show 1 + h = h + 1 by omega] at a1
  rw [show 0 + (h + 1) = h + 1 by omega, show 1 + (h + 1) = h + 2 by omega] at a2
  unfold zr_lc
  refine zr_cw_app a1 (zr_cw_app a2 (Or.inr (Or.inr ⟨?_, by omega, ?_⟩)))
  · rcases (show l.2.2.1 = 0 ∨ l.2.2.1 = 1 ∨ l.2.2.1 = 2 ∨ l.2.2.1 = 3 by omega) with e | e | e | e <;> rw [e] <;> (unfold zr_jk; decide)
  · rw [show h + 2 - 1 = h + 1 by omega]
    cases l.2.1
    · rw [if_neg (by decide)]; exact rfl
    · rw [if_pos rfl]; exact Or.inr (Or.inl ⟨rfl, by omega, rfl⟩)
theorem zr_b_and : ∀ a b : Bool, zr_b a &&& zr_b b = zr_b (a && b) := by decide
theorem zr_b_or : ∀ a b : Bool, zr_b a ||| zr_b b = zr_b (a || b) := by decide
theorem zr_cr_ev {V W : Nat → Int32} (hV : ∀ j, j < 8 → W (zr_cv j) = V j) : ∀ (ls : List zr_L) (w acc cur : Bool), (∀ l, l ∈ ls → zr_ok l) → (w = false → acc = false) → zr_cev W (zr_cr w ls) (zr_b cur :: (if w = true then [zr_b acc] else []), false) = ([zr_b (zr_hd V acc cur ls)], false)
  | [], w, acc, cur, _, hw => by
    cases w
    · rw [hw rfl]; rfl
    · show ((zr_b acc ||| zr_b cur) :: [], false) = _
      rw [zr_b_or]; rfl
  | l :: ls, w, acc, cur, hl, hw => by
    have hl1 := hl l (List.mem_cons_self ..)
    have hl2 : ∀ x, x ∈ ls → zr_ok x := fun x hx => hl x (List.mem_cons_of_mem _ hx)
    unfold zr_cr zr_hd
    by_cases ho : l.1 = true
    · rw [if_pos ho, if_pos ho, zr_cev_app, zr_cev_app]
      have e1 : zr_cev W (if w = true then [(25, 0)] else []) (zr_b cur :: (if w = true then [zr_b acc] else []), false) = ([zr_b (acc || cur)], false) := by
        cases w
        · rw [hw rfl]; rfl
        · show ((zr_b acc ||| zr_b cur) :: [], false) = _
          rw [zr_b_or]
      rw [e1, zr_lc_ev hV hl1]
      exact zr_cr_ev hV ls true (acc || cur) (zr_t V l) hl2 (fun h => by cases h)
    · rw [if_neg ho, if_neg ho, zr_cev_app, zr_lc_ev hV hl1]
      show zr_cev W (zr_cr w ls) ((zr_b cur &&& zr_b (zr_t V l)) :: (if w = true then [zr_b acc] else []), false) = _
      rw [zr_b_and]
      exact zr_cr_ev hV ls w acc (cur && zr_t V l) hl2 hw
theorem zr_cr_w : ∀ (ls : List zr_L) (w : Bool), (∀ l, l ∈ ls → zr_ok l) → zr_cw 32 (zr_cr w ls) (if w = true then 2 else 1) 1
  | [], w, _ => by
    cases w
    · rfl
    · exact Or.inr (Or.inr ⟨by unfold zr_jk; decide, by decide, rfl⟩)
  | l :: ls, w, hl => by
    have hl1 := hl l (List.mem_cons_self ..)
    have hl2 : ∀ x, x ∈ ls → zr_ok x := fun x hx => hl x (List.mem_cons_of_mem _ hx)
    unfold zr_cr
    by_cases ho : l.1 = true
    · rw [if_pos ho]
      refine zr_cw_app (m := 1) ?_ (zr_cw_app (zr_lc_w hl1 (by decide)) (zr_cr_w ls true hl2))
      cases w
      · rfl
      · exact Or.inr (Or.inr ⟨by unfold zr_jk; decide, by decide, rfl⟩)
    · rw [if_neg ho]
      cases w
      · exact zr_cw_app (zr_lc_w hl1 (by decide)) (Or.inr (Or.inr ⟨by unfold zr_jk; decide, by decide, zr_cr_w ls false hl2⟩))
      · exact zr_cw_app (zr_lc_w hl1 (by decide)) (Or.inr (Or.inr ⟨by unfold zr_jk; decide, by decide, zr_cr_w ls true hl2⟩))
/-- the class's code of a condition leaves whether it holds -/
theorem zr_cc_ev {V W : Nat → Int32} (hV : ∀ j, j < 8 → W (zr_cv j) = V j) (ls : List zr_L) (h0 : ls ≠ []) (hl : ∀ l, l ∈ ls → zr_ok l) : zr_cev W (zr_cc ls) ([], false) = ([zr_b (zr_h V ls)], false) := by
  match ls, h0 with
  | l :: ls, _ =>
    show zr_cev W (zr_lc l ++ zr_cr false ls) ([], false) = ([zr_b (zr_hd V false (zr_t V l) ls)], false)
    rw [zr_cev_app, zr_lc_ev hV (hl l (List.mem_cons_self ..))]
    exact zr_cr_ev hV ls false false (zr_t V l) (fun x hx => hl x (List.mem_cons_of_mem _ hx)) (fun _ => rfl)
theorem zr_cc_w (ls : List zr_L) (h0 : ls ≠ []) (hl : ∀ l, l ∈ ls → zr_ok l) : zr_cw 32 (zr_cc ls) 0 1 := by
  match ls, h0 with
  | l :: ls, _ => exact zr_cw_app (zr_lc_w (hl l (List.mem_cons_self ..)) (by decide)) (zr_cr_w ls false (fun x hx => hl x (List.mem_cons_of_mem _ hx)))
theorem zr_hd_true (V : Nat → Int32) : ∀ (ls : List zr_L) (cur : Bool), zr_hd V true cur ls = true
  | [], cur => rfl
  | l :: ls, cur => by
    unfold zr_hd
    by_cases ho : l.1 = true
    · rw [if_pos ho]; exact zr_hd_true V ls _
    · rw [if_neg ho]; exact zr_hd_true V ls _
theorem zr_lc_ne (l : zr_L) : 1 ≤ (zr_lc l).length := by
  unfold zr_lc
  simp only [List.length_append, List.length_cons]
  omega
