/-! ===== a text and its tokens (pure) ===== -/
def zt_L (c : Nat) : Bool := decide (97 ≤ c ∧ c ≤ 122)
def zt_D (c : Nat) : Bool := decide (48 ≤ c ∧ c ≤ 57)
def zt_B (c : Nat) : Bool := decide (c = 9 ∨ c = 10 ∨ c = 13 ∨ c = 32)
def zt_C (c : Nat) : Bool := decide (c = 46 ∨ (49 ≤ c ∧ c ≤ 52) ∨ c = 35 ∨ c = 120)
def zt_cn (c : Nat) : Nat := if c = 46 then 0 else if 49 ≤ c ∧ c ≤ 52 then c - 48 else if c = 35 then 5 else 6
def zt_co (c : Nat) : Int32 := if zt_C c = true then nI (zt_cn c) else -1
theorem zt_b1 : ∀ c, c < 256 → f_X8_isLetter (nI c) = some (zr_b (zt_L c)) ∧ f_X11_isLetter (nI c) = some (zr_b (zt_L c)) ∧ f_X8_isDigit (nI c) = some (zr_b (zt_D c)) ∧ f_X11_isDigit (nI c) = some (zr_b (zt_D c)) ∧ f_X8_isBlank (nI c) = some (zr_b (zt_B c)) ∧ f_X11_cellOf (nI c) = some (zt_co c) := by decide +kernel
theorem zt_b2 : ∀ c, c < 256 → f_X10_cellOf (nI c) = some (zt_co c) := by decide +kernel
theorem zt_b3 : f_X8_isLetter (-1) = some 0 ∧ f_X8_isDigit (-1) = some 0 ∧ f_X8_isBlank (-1) = some 0 ∧ f_X10_cellOf (-1) = some (-1) ∧ f_X11_isLetter 0 = some 0 ∧ f_X11_isDigit 0 = some 0 ∧ f_X11_cellOf 0 = some (-1) := by decide +kernel
theorem zt_co1 : ∀ c, c < 256 → (zt_co c = -1 ↔ zt_C c = false) ∧ (zt_co c < 0 ↔ zt_C c = false) ∧ zt_cn c ≤ 6 := by decide +kernel
/-- the end of the run of bytes from a on that P takes -/
def zt_rn (P : Nat → Bool) (T : Nat → Nat) (n : Nat) : Nat → Nat → Nat
  | 0, a => a
  | f + 1, a => if a < n ∧ P (T a) = true then zt_rn P T n f (a + 1) else a
def zt_r (P : Nat → Bool) (T : Nat → Nat) (n a : Nat) : Nat := zt_rn P T n (n - a) a
theorem zt_r_go {P : Nat → Bool} {T : Nat → Nat} {n a : Nat} (h : a < n) (hp : P (T a) = true) : zt_r P T n a = zt_r P T n (a + 1) := by
  unfold zt_r
  rw [show n - a = (n - (a + 1)) + 1 by omega]
  show (if a < n ∧ P (T a) = true then zt_rn P T n (n - (a + 1)) (a + 1) else a) = _
  rw [if_pos ⟨h, hp⟩]
theorem zt_r_end {P : Nat → Bool} {T : Nat → Nat} {n a : Nat} (h : ¬ (a < n ∧ P (T a) = true)) : zt_r P T n a = a := by
  unfold zt_r
  cases hf : n - a with
  | zero => rfl
  | succ f =>
    show (if a < n ∧ P (T a) = true then zt_rn P T n f (a + 1) else a) = a
    rw [if_neg h]
theorem zt_rn_b {P : Nat → Bool} {T : Nat → Nat} {n : Nat} : ∀ (f a : Nat), a ≤ zt_rn P T n f a ∧ (a ≤ n → zt_rn P T n f a ≤ n) ∧ ∀ j, a ≤ j → j < zt_rn P T n f a → P (T j) = true
  | 0, a => ⟨Nat.le_refl _, fun h => h, fun j h1 h2 => by have h2 : j < a := h2; omega⟩
  | f + 1, a => by
    show a ≤ (if a < n ∧ P (T a) = true then zt_rn P T n f (a + 1) else a) ∧ (a ≤ n → (if a < n ∧ P (T a) = true then zt_rn P T n f (a + 1) else a) ≤ n) ∧ ∀ j, a ≤ j → j < (if a < n ∧ P (T a) = true then zt_rn P T n f (a + 1) else a) → P (T j) = true
    by_cases h : a < n ∧ P (T a) = true
    · rw [if_pos h]
      obtain ⟨i1, i2, i3⟩ := zt_rn_b (P := P) (T := T) (n := n) f (a + 1)
      refine ⟨by omega, fun _ => i2 (by omega), fun j h1 h2 => ?_⟩
      by_cases e : j = a
      · rw [e]; exact h.2
      · exact i3 j (by omega) h2
    · rw [if_neg h]
      exact ⟨Nat.le_refl _, fun h => h, fun j h1 h2 => by omega⟩
theorem zt_r_ge (P : Nat → Bool) (T : Nat → Nat) (n a : Nat) : a ≤ zt_r P T n a := (zt_rn_b _ _).1
theorem zt_r_le {P : Nat → Bool} {T : Nat → Nat} {n a : Nat} (h : a ≤ n) : zt_r P T n a ≤ n := (zt_rn_b _ _).2.1 h
theorem zt_r_in {P : Nat → Bool} {T : Nat → Nat} {n a j : Nat} (h1 : a ≤ j) (h2 : j < zt_r P T n a) : P (T j) = true := (zt_rn_b _ _).2.2 j h1 h2
/-- letters of a word, the last one first; what they are in one number -/
def zt_rl (T : Nat → Nat) (a : Nat) : Nat → List Nat
  | 0 => []
  | k + 1 => (T (a + k) - 96) :: zt_rl T a k
def zt_en (B : Nat) : List Nat → Nat
  | [] => 0
  | d :: l => zt_en B l * B + d
def zt_dg (l : List Nat) : Prop := ∀ d, d ∈ l → 1 ≤ d ∧ d ≤ 26
theorem zt_en_in {B : Nat} (hB : 27 ≤ B) : ∀ (l l2 : List Nat), zt_dg l → zt_dg l2 → zt_en B l = zt_en B l2 → l = l2
  | [], [], _, _, _ => rfl
  | [], d :: l2, _, h2, h => by
    have h : 0 = zt_en B l2 * B + d := h
    have := h2 d (List.mem_cons_self ..)
    omega
  | d :: l, [], h1, _, h => by
    have h : zt_en B l * B + d = 0 := h
    have := h1 d (List.mem_cons_self ..)
    omega
  | d :: l, d2 :: l2, h1, h2, h => by
    have h : zt_en B l * B + d = zt_en B l2 * B + d2 := h
    have a1 := h1 d (List.mem_cons_self ..)
    have a2 := h2 d2 (List.mem_cons_self ..)
    have e1 : d = d2 := by
      have := congrArg (· % B) h
      simp only [Nat.mul_add_mod_self_right] at this
      rwa [Nat.mod_eq_of_lt (by omega), Nat.mod_eq_of_lt (by omega)] at this
    subst e1
    have e2 : zt_en B l = zt_en B l2 := Nat.eq_of_mul_eq_mul_right (by omega) (Nat.add_right_cancel h)
    rw [zt_en_in hB l l2 (fun x hx => h1 x (List.mem_cons_of_mem _ hx)) (fun x hx => h2 x (List.mem_cons_of_mem _ hx)) e2]
theorem zt_en_lt {B : Nat} (hB : 27 ≤ B) : ∀ (l : List Nat), zt_dg l → zt_en B l < B ^ l.length
  | [], _ => by show 0 < B ^ 0; rw [Nat.pow_zero]; decide
  | d :: l, h => by
    have a1 := h d (List.mem_cons_self ..)
    have i := zt_en_lt hB l (fun x hx => h x (List.mem_cons_of_mem _ hx))
    show zt_en B l * B + d < B ^ (l.length + 1)
    rw [Nat.pow_succ]
    have h3 : (zt_en B l + 1) * B ≤ B ^ l.length * B := Nat.mul_le_mul_right B i
    rw [Nat.add_mul, Nat.one_mul] at h3
    omega
theorem zt_rl_len (T : Nat → Nat) (a : Nat) : ∀ k, (zt_rl T a k).length = k
  | 0 => rfl
  | k + 1 => by show (zt_rl T a k).length + 1 = k + 1; rw [zt_rl_len T a k]
theorem zt_rl_dg {T : Nat → Nat} {a : Nat} : ∀ {k : Nat}, (∀ j, a ≤ j → j < a + k → zt_L (T j) = true) → zt_dg (zt_rl T a k)
  | 0, _ => fun d hd => by cases hd
  | k + 1, h => by
    intro d hd
    rcases List.mem_cons.mp hd with rfl | hd
    · have := h (a + k) (by omega) (by omega)
      unfold zt_L at this
      have := of_decide_eq_true this
      omega
    · exact zt_rl_dg (fun j h1 h2 => h j h1 (by omega)) d hd
/-- does the list stand there? -/
def zt_mt (T : Nat → Nat) (a : Nat) : List Nat → Prop
  | [] => True
  | d :: l => T (a + l.length) - 96 = d ∧ zt_mt T a l
theorem zt_mt_rl {T : Nat → Nat} {a : Nat} : ∀ {l : List Nat}, zt_mt T a l ↔ zt_rl T a l.length = l
  | [] => ⟨fun _ => rfl, fun _ => trivial⟩
  | d :: l => by
    show (T (a + l.length) - 96 = d ∧ zt_mt T a l) ↔ (T (a + l.length) - 96) :: zt_rl T a l.length = d :: l
    rw [zt_mt_rl, List.cons.injEq]
/-- the words of the grammar, in the class's order, the last letter first -/
def zt_kl : List (List Nat) := [[6, 6, 21, 20, 19], [20, 21, 3], [8, 7, 21, 15, 18], [5, 4, 1, 18, 7], [5, 3, 9, 18, 16], [19, 20, 1, 5], [6, 9], [18, 15], [4, 14, 1], [20, 15, 14], [20, 8, 7, 9, 18, 2], [11, 1, 5, 12], [11, 18, 1, 4], [14, 5, 22, 5, 14, 21], [19, 23, 1, 12, 6], [20, 8, 7, 9, 5, 23], [5, 4, 9, 23], [18, 21, 15, 12, 15, 3]]
def zt_kw (s : Nat) : List Nat := zt_kl.getD s []
/-- the kind of a word: 18 and on, or a name -/
def zt_kf (w : List Nat) : Nat → Nat → Nat
  | 0, _ => 2
  | f + 1, s => if w = zt_kw s then 18 + s else zt_kf w f (s + 1)
def zt_wk (w : List Nat) : Nat := zt_kf w 18 0
def zt_nm (T : Nat → Nat) (a : Nat) : Nat → Nat
  | 0 => 0
  | k + 1 => zt_nm T a k * 10 + (T (a + k) - 48)
def zt_two (T : Nat → Nat) (n a : Nat) : Prop := a + 1 < n ∧ T (a + 1) = 61 ∧ (T a = 60 ∨ T a = 61 ∨ T a = 33)
/-- one sign: ;:,+-*/()< -/
def zt_sg (c : Nat) : Nat := if c = 59 then 5 else if c = 58 then 6 else if c = 44 then 7 else if c = 43 then 8 else if c = 45 then 9 else if c = 42 then 10 else if c = 47 then 11 else if c = 40 then 12 else if c = 41 then 13 else if c = 60 then 14 else 1
/-- the token that begins at a: its end, its letters, its value, its kind -/
def zt_e (T : Nat → Nat) (n a : Nat) : Nat := if zt_L (T a) = true then zt_r zt_L T n (a + 1) else if zt_D (T a) = true then zt_r zt_D T n (a + 1) else if T a = 39 then zt_r zt_C T n (a + 1) else if a + 1 < n ∧ T (a + 1) = 61 ∧ (T a = 60 ∨ T a = 61 ∨ T a = 33) then a + 2 else a + 1
def zt_w (T : Nat → Nat) (n a : Nat) : List Nat := if zt_L (T a) = true then zt_rl T a (zt_e T n a - a) else []
def zt_v (T : Nat → Nat) (n a : Nat) : Nat := if zt_L (T a) = true then 0 else if zt_D (T a) = true then zt_nm T a (min 4 (zt_e T n a - a)) else if T a = 39 then zt_e T n a - a - 1 else 0
def zt_k (T : Nat → Nat) (n a : Nat) : Nat := if zt_L (T a) = true then (if zt_e T n a - a ≤ 8 then zt_wk (zt_w T n a) else 1) else if zt_D (T a) = true then (if zt_e T n a - a ≤ 4 then 3 else 1) else if T a = 39 then (if 1 ≤ zt_e T n a - a - 1 ∧ zt_e T n a - a - 1 ≤ 12 then 4 else 1) else if a + 1 < n ∧ T (a + 1) = 61 ∧ (T a = 60 ∨ T a = 61 ∨ T a = 33) then (if T a = 60 then 15 else if T a = 61 then 16 else 17) else zt_sg (T a)
/-- where the i-th token begins; n behind the last one -/
def zt_a (T : Nat → Nat) (n : Nat) : Nat → Nat
  | 0 => zt_r zt_B T n 0
  | i + 1 => if zt_a T n i < n then zt_r zt_B T n (zt_e T n (zt_a T n i)) else zt_a T n i
def zt_K (T : Nat → Nat) (n i : Nat) : Nat := if zt_a T n i < n then zt_k T n (zt_a T n i) else 0
theorem zt_e_b {T : Nat → Nat} {n a : Nat} (h : a < n) : a < zt_e T n a ∧ zt_e T n a ≤ n := by
  unfold zt_e
  have r1 := zt_r_ge zt_L T n (a + 1)
  have r2 := zt_r_ge zt_D T n (a + 1)
  have r3 := zt_r_ge zt_C T n (a + 1)
  have q1 := zt_r_le (P := zt_L) (T := T) (n := n) (a := a + 1) (by omega)
  have q2 := zt_r_le (P := zt_D) (T := T) (n := n) (a := a + 1) (by omega)
  have q3 := zt_r_le (P := zt_C) (T := T) (n := n) (a := a + 1) (by omega)
  split
  · exact ⟨by omega, q1⟩
  · split
    · exact ⟨by omega, q2⟩
    · split
      · exact ⟨by omega, q3⟩
      · split
        · rename_i hh; exact ⟨by omega, by omega⟩
        · exact ⟨by omega, by omega⟩
theorem zt_a_le (T : Nat → Nat) (n : Nat) : ∀ i, zt_a T n i ≤ n
  | 0 => zt_r_le (Nat.zero_le _)
  | i + 1 => by
    show (if zt_a T n i < n then zt_r zt_B T n (zt_e T n (zt_a T n i)) else zt_a T n i) ≤ n
    by_cases h : zt_a T n i < n
    · rw [if_pos h]; exact zt_r_le (zt_e_b h).2
    · rw [if_neg h]; exact zt_a_le T n i
theorem zt_a_lt {T : Nat → Nat} {n i : Nat} (h : zt_a T n i < n) : zt_a T n i < zt_a T n (i + 1) := by
  show zt_a T n i < (if zt_a T n i < n then zt_r zt_B T n (zt_e T n (zt_a T n i)) else zt_a T n i)
  rw [if_pos h]
  have h1 := (zt_e_b (T := T) h).1
  have h2 := zt_r_ge zt_B T n (zt_e T n (zt_a T n i))
  omega
theorem zt_a_nb {T : Nat → Nat} {n : Nat} : ∀ i, zt_a T n i < n → zt_B (T (zt_a T n i)) = false := by
  have key : ∀ a, zt_r zt_B T n a < n → zt_B (T (zt_r zt_B T n a)) = false := by
    have : ∀ f a, n - a ≤ f → zt_r zt_B T n a < n → zt_B (T (zt_r zt_B T n a)) = false := by
      intro f
      induction f with
      | zero =>
        intro a h1 h2
        have := zt_r_ge zt_B T n a
        omega
      | succ f ih =>
        intro a h1 h2
        by_cases h : a < n ∧ zt_B (T a) = true
        · rw [zt_r_go h.1 h.2] at h2 ⊢
          exact ih (a + 1) (by omega) h2
        · rw [zt_r_end h] at h2 ⊢
          cases hb : zt_B (T a)
          · rfl
          · exact absurd ⟨h2, hb⟩ h
    exact fun a => this (n - a) a (Nat.le_refl _)
  intro i
  induction i with
  | zero => exact key 0
  | succ i ih =>
    show (if zt_a T n i < n then zt_r zt_B T n (zt_e T n (zt_a T n i)) else zt_a T n i) < n → zt_B (T (if zt_a T n i < n then zt_r zt_B T n (zt_e T n (zt_a T n i)) else zt_a T n i)) = false
    by_cases h : zt_a T n i < n
    · rw [if_pos h]; exact key _
    · rw [if_neg h]; exact fun q => absurd q h
