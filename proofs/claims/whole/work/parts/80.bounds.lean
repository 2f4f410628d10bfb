/-! ===== how much light there can be ===== -/
def zq_SB (B : Nat) (s : Nat → Int32) : Prop := ∀ j, j ≠ 7 → ∃ σ, s j = nI σ ∧ σ ≤ B
def zq_Bd (B : Nat) (l : Int32) (s : Nat → Int32) : Prop := ∃ a, l = nI a ∧ a ≤ 100000 ∧ ∀ j, j ≠ 7 → ∃ σ, s j = nI σ ∧ σ + a ≤ B
theorem zq_share {a f : Nat} (ha : a ≤ 100000) (hf : f ≤ 1000) : nI a * nI f / 1000 = nI (a * f / 1000) ∧ a * f / 1000 ≤ a := by
  have h1 : a * f ≤ a * 1000 := Nat.mul_le_mul_left a hf
  refine ⟨?_, by omega⟩
  rw [pk_mul, show (1000 : Int32) = nI 1000 from rfl, pk_div (by omega) (by decide) (by decide)]
theorem zq_Bd_add {B : Nat} {l : Int32} {s s2 : Nat → Int32} {f : Nat} (h : zq_Bd B l s) (hf : f ≤ 1000) (hs : ∀ j, j ≠ 7 → s2 j = s j ∨ s2 j = s j + l * nI f / 1000) : zq_Bd B (l - l * nI f / 1000) s2 := by
  obtain ⟨a, rfl, ha, hb⟩ := h
  obtain ⟨e1, e2⟩ := zq_share ha hf
  rw [e1] at hs ⊢
  refine ⟨a - a * f / 1000, pk_sub e2, by omega, fun j hj => ?_⟩
  obtain ⟨σ, h1, h2⟩ := hb j hj
  rcases hs j hj with q | q
  · exact ⟨σ, q.trans h1, by omega⟩
  · exact ⟨σ + a * f / 1000, by rw [q, h1, nI_add], by omega⟩
theorem zq_add_c (s : Nat → Int32) (k : Nat) (v : Int32) (j : Nat) : zq_add s k v j = s j ∨ zq_add s k v j = s j + v := by
  unfold zq_add
  split
  · exact Or.inr rfl
  · exact Or.inl rfl
theorem zq_go_c (s : Nat → Int32) (w x : Nat) (v : Int32) (j : Nat) : zq_go s w x v j = s j ∨ zq_go s w x v j = s j + v := by
  unfold zq_go
  by_cases c : w = 0
  · rw [if_pos c]
    by_cases h : j = 8 + x
    · rw [h, zq_add_s, zq_add_o _ _ (by omega)]
      exact Or.inr rfl
    · rw [zq_add_o _ _ h]
      exact zq_add_c s w v j
  · rw [if_neg c]
    exact zq_add_c s w v j
theorem zq_Bd_s1 {B : Nat} {l : Int32} {s : Nat → Int32} {sl ea : Nat} (c w x : Nat) (hs : sl ≤ 1000) (he : ea ≤ 1000) (h : zq_Bd B l s) : zq_Bd B (zq_s1 c w x l (nI sl) (nI ea) s).2.1 (zq_s1 c w x l (nI sl) (nI ea) s).2.2 := by
  unfold zq_s1
  split
  · refine zq_Bd_add h he (fun j hj => ?_)
    dsimp only
    rw [zq_add_o _ _ hj]
    exact zq_add_c s 5 _ j
  · split
    · exact zq_Bd_add h hs (fun j _ => zq_go_c s w x _ j)
    · exact h
theorem zq_Bd_s2 {B : Nat} {l : Int32} {s : Nat → Int32} {fl : Nat} (d : zq_D) (x y w : Nat) (hf : fl ≤ 1000) (h : zq_Bd B l s) : zq_Bd B (zq_s2 d (nI fl) x y w l s).2.2.2.1 (zq_s2 d (nI fl) x y w l s).2.2.2.2 := by
  unfold zq_s2
  split
  · exact h
  · exact zq_Bd_add h hf (fun j _ => zq_go_c s w x _ j)
theorem zq_Bd_run {B : Nat} {fl sl ea : Nat} (d : zq_D) (hf : fl ≤ 1000) (hs : sl ≤ 1000) (he : ea ≤ 1000) : ∀ k (p : zq_P), zq_Bd B p.2.2.2.1 p.2.2.2.2.2.2 → zq_Bd B (zq_run d (nI fl) (nI sl) (nI ea) k p).2.2.2.1 (zq_run d (nI fl) (nI sl) (nI ea) k p).2.2.2.2.2.2
  | 0, p, h => h
  | k + 1, p, h => by
    unfold zq_run
    split
    · exact zq_Bd_run d hf hs he k _ (zq_Bd_s2 d _ _ _ hf (zq_Bd_s1 _ _ _ hs he h))
    · exact h
theorem zq_SB_lamp {B a : Nat} {s tr : Nat → Int32} {fl sl ea : Nat} (d : zq_D) (lamp i : Nat) (hf : fl ≤ 1000) (hs : sl ≤ 1000) (he : ea ≤ 1000) (ha : a ≤ 100000) (h : zq_SB B s) : zq_SB (B + a) (zq_lamp d (nI fl) (nI sl) (nI ea) lamp i (nI a) tr s).2.2 := by
  have hBd : zq_Bd (B + a) (nI a) s := ⟨a, rfl, ha, fun j hj => by
    obtain ⟨σ, h1, h2⟩ := h j hj
    exact ⟨σ, h1, by omega⟩⟩
  unfold zq_lamp
  split
  · obtain ⟨e1, e2⟩ := zq_share ha hf
    have h0 : zq_Bd (B + a) (nI a * nI fl / 1000) (zq_add s 4 (nI a - nI a * nI fl / 1000)) := by
      refine ⟨a * fl / 1000, e1, by omega, fun j hj => ?_⟩
      obtain ⟨σ, h1, h2⟩ := h j hj
      by_cases h4 : j = 4
      · subst h4
        exact ⟨σ + (a - a * fl / 1000), by rw [zq_add_s, h1, e1, pk_sub e2, nI_add], by omega⟩
      · exact ⟨σ, by rw [zq_add_o _ _ h4]; exact h1, by omega⟩
    have hr := zq_Bd_run (B := B + a) d hf hs he 300 ((zq_px d lamp i (zq_ent d lamp i)).toNatClampNeg, (zq_py lamp i (zq_ent d lamp i)).toNatClampNeg, zq_opp lamp, nI a * nI fl / 1000, 0, tr, zq_add s 4 (nI a - nI a * nI fl / 1000)) h0
    obtain ⟨a2, q1, q2, q3⟩ := hr
    intro j hj
    obtain ⟨σ, h1, h2⟩ := q3 j hj
    dsimp only
    by_cases h6 : j = 6
    · subst h6
      exact ⟨σ + a2, by rw [zq_add_s, h1, q1, nI_add], by omega⟩
    · exact ⟨σ, by rw [zq_add_o _ _ h6]; exact h1, by omega⟩
  · intro j hj
    obtain ⟨σ, h1, h2⟩ := h j hj
    dsimp only
    by_cases h4 : j = 4
    · subst h4
      exact ⟨σ + a, by rw [zq_add_s, h1, nI_add], by omega⟩
    · exact ⟨σ, by rw [zq_add_o _ _ h4]; exact h1, by omega⟩
/-! the lamps of a SHINE: above, then left and right -/
def zq_sa (d : zq_D) (fl sl ea ab a b : Int32) : Nat → Nat × (Nat → Int32) × (Nat → Int32)
  | 0 => (0, zq_z, zq_z)
  | i + 1 => if nI i < a ∨ b < nI i then zq_lamp d fl sl ea 0 i ab (zq_sa d fl sl ea ab a b i).2.1 (zq_sa d fl sl ea ab a b i).2.2 else zq_sa d fl sl ea ab a b i
def zq_ss (d : zq_D) (fl sl ea le ri : Int32) (q : Nat × (Nat → Int32) × (Nat → Int32)) : Nat → Nat × (Nat → Int32) × (Nat → Int32)
  | 0 => q
  | i + 1 => zq_lamp d fl sl ea 1 i ri (zq_lamp d fl sl ea 3 i le (zq_ss d fl sl ea le ri q i).2.1 (zq_ss d fl sl ea le ri q i).2.2).2.1 (zq_lamp d fl sl ea 3 i le (zq_ss d fl sl ea le ri q i).2.1 (zq_ss d fl sl ea le ri q i).2.2).2.2
def zq_ga (ab a b : Int32) : Nat → Int32
  | 0 => 0
  | i + 1 => if nI i < a ∨ b < nI i then zq_ga ab a b i + ab else zq_ga ab a b i
/-- all that a SHINE sums up -/
def zq_shS (d : zq_D) (fl sl ea ab le ri a b : Int32) : Nat → Int32 := (zq_ss d fl sl ea le ri (zq_sa d fl sl ea ab a b d.w) d.t).2.2
def zq_gv (d : zq_D) (ab le ri a b : Int32) : Int32 := zq_ga ab a b d.w + (le + ri) * nI d.t
theorem zq_SB_sa {fl sl ea ab : Nat} (d : zq_D) (a b : Int32) (hf : fl ≤ 1000) (hs : sl ≤ 1000) (he : ea ≤ 1000) (ha : ab ≤ 100000) : ∀ i, zq_SB (i * ab) (zq_sa d (nI fl) (nI sl) (nI ea) (nI ab) a b i).2.2
  | 0 => fun j _ => ⟨0, rfl, by omega⟩
  | i + 1 => by
    have ih := zq_SB_sa d a b hf hs he ha i
    have e : (i + 1) * ab = i * ab + ab := Nat.succ_mul i ab
    unfold zq_sa
    rw [e]
    split
    · exact zq_SB_lamp d 0 i hf hs he ha ih
    · intro j hj
      obtain ⟨σ, h1, h2⟩ := ih j hj
      exact ⟨σ, h1, by omega⟩
theorem zq_SB_ss {fl sl ea le ri B : Nat} (d : zq_D) (q : Nat × (Nat → Int32) × (Nat → Int32)) (hf : fl ≤ 1000) (hs : sl ≤ 1000) (he : ea ≤ 1000) (hl : le ≤ 100000) (hr : ri ≤ 100000) (h : zq_SB B q.2.2) : ∀ i, zq_SB (B + i * (le + ri)) (zq_ss d (nI fl) (nI sl) (nI ea) (nI le) (nI ri) q i).2.2
  | 0 => by
    rw [Nat.zero_mul]
    exact h
  | i + 1 => by
    have ih := zq_SB_ss d q hf hs he hl hr h i
    have e : B + (i + 1) * (le + ri) = B + i * (le + ri) + le + ri := by rw [Nat.succ_mul]; omega
    rw [e]
    exact zq_SB_lamp d 1 i hf hs he hr (zq_SB_lamp d 3 i hf hs he hl ih)
theorem zq_SB_sh {fl sl ea ab le ri : Nat} {d : zq_D} (ok : zq_ok d) (a b : Int32) (hf : fl ≤ 1000) (hs : sl ≤ 1000) (he : ea ≤ 1000) (ha : ab ≤ 100000) (hl : le ≤ 100000) (hr : ri ≤ 100000) : zq_SB (12 * ab + 12 * (le + ri)) (zq_shS d (nI fl) (nI sl) (nI ea) (nI ab) (nI le) (nI ri) a b) := by
  have w2 := ok.w2
  have t2 := ok.t2
  have h := zq_SB_ss d (zq_sa d (nI fl) (nI sl) (nI ea) (nI ab) a b d.w) hf hs he hl hr (zq_SB_sa d a b hf hs he ha d.w) d.t
  intro j hj
  obtain ⟨σ, h1, h2⟩ := h j hj
  have e1 : d.w * ab ≤ 12 * ab := Nat.mul_le_mul_right ab w2
  have e2 : d.t * (le + ri) ≤ 12 * (le + ri) := Nat.mul_le_mul_right (le + ri) t2
  exact ⟨σ, h1, by omega⟩
/-! dark and uneven -/
def zq_mx (s : Nat → Int32) : Nat → Int32
  | 0 => 0
  | i + 1 => if zq_mx s i < s (8 + i) then s (8 + i) else zq_mx s i
def zq_cc (d : zq_D) (x : Nat) : Nat → Bool
  | 0 => false
  | y + 1 => zq_cc d x y || decide (d.c x y ≠ 0)
theorem zq_cc_iff (d : zq_D) (x : Nat) : ∀ n, zq_cc d x n = true ↔ ∃ y, y < n ∧ d.c x y ≠ 0
  | 0 => ⟨fun h => Bool.noConfusion h, fun ⟨y, h, _⟩ => absurd h (by omega)⟩
  | n + 1 => by
    have ih := zq_cc_iff d x n
    unfold zq_cc
    rw [Bool.or_eq_true, ih, decide_eq_true_iff]
    refine ⟨fun h => ?_, fun ⟨y, h1, h2⟩ => ?_⟩
    · rcases h with ⟨y, h1, h2⟩ | h
      · exact ⟨y, by omega, h2⟩
      · exact ⟨n, by omega, h⟩
    · by_cases c : y = n
      · subst c; exact Or.inr h2
      · exact Or.inl ⟨y, by omega, h2⟩
def zq_dk (d : zq_D) (s : Nat → Int32) (m : Int32) : Nat → Nat
  | 0 => 0
  | i + 1 => zq_dk d s m i + (if (zq_cc d i d.t = true ∧ ¬ m ≤ s (8 + i) * 10) then 1 else 0)
theorem zq_mx_b {s : Nat → Int32} {B : Nat} (h : zq_SB B s) : ∀ i, ∃ σ, zq_mx s i = nI σ ∧ σ ≤ B
  | 0 => ⟨0, rfl, by omega⟩
  | i + 1 => by
    unfold zq_mx
    split
    · exact h (8 + i) (by omega)
    · exact zq_mx_b h i
def zq_ab (z : Int32) : Int32 := if 0 ≤ z then z else -z
def zq_un (d : zq_D) (s : Nat → Int32) : Nat → Int32
  | 0 => 0
  | i + 1 => zq_un d s i + zq_ab (s (8 + i) - s (8 + (d.w - 1 - i)))
theorem zq_cmp {σ μ : Nat} (h1 : σ ≤ 10000000) (h2 : μ ≤ 10000000) : (0 : Int32) ≤ lg_cmp (10 * (nI σ).toInt64) (nI μ).toInt64 ↔ nI μ ≤ nI σ * 10 := by
  have e1 : ((10 : Int64) * (nI σ).toInt64).toInt = 10 * (σ : Int) := by
    rw [Int64.toInt_mul, Int32.toInt_toInt64, nI_toInt (by omega), show (10 : Int64).toInt = 10 from rfl]
    rw [Int.bmod_eq_of_le] <;> omega
  have e2 : ((nI μ).toInt64).toInt = (μ : Int) := by rw [Int32.toInt_toInt64, nI_toInt (by omega)]
  have e3 : nI σ * 10 = nI (σ * 10) := pk_mul σ 10
  rw [e3, nI_leI (by omega) (by omega)]
  unfold lg_cmp
  by_cases c1 : (10 * (nI σ).toInt64) > (nI μ).toInt64
  · rw [if_pos c1]
    have := Int64.lt_iff_toInt_lt.mp c1
    rw [e1, e2] at this
    exact ⟨fun _ => by omega, fun _ => by decide⟩
  · rw [if_neg c1]
    have c1b : ¬ ((nI μ).toInt64.toInt < (10 * (nI σ).toInt64).toInt) := fun q => c1 (Int64.lt_iff_toInt_lt.mpr q)
    rw [e1, e2] at c1b
    by_cases c2 : (10 * (nI σ).toInt64) = (nI μ).toInt64
    · rw [if_pos c2]
      have := congrArg Int64.toInt c2
      rw [e1, e2] at this
      exact ⟨fun _ => by omega, fun _ => by decide⟩
    · rw [if_neg c2]
      have c3 : ¬ (10 * (nI σ).toInt64).toInt = (nI μ).toInt64.toInt := fun q => c2 (Int64.toInt_inj.mp q)
      rw [e1, e2] at c3
      exact ⟨fun q => absurd q (by decide), fun q => by omega⟩
