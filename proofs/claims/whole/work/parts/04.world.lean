/-! ===== the abstract heap: ints, references and longs by id and place; ids 1 .. n are the cells made by the law, in the order of their making, at base, base + 1 ..; ids from 1000 on are cells that were there before ===== -/
abbrev aS : Type := (Nat → Nat → Int32) × (Nat → Nat → Nat) × (Nat → Nat → Int64)
def zw_u {α : Type} (f : Nat → Nat → α) (o k : Nat) (v : α) : Nat → Nat → α := fun a b => if a = o ∧ b = k then v else f a b
theorem zw_u_row {α : Type} (f : Nat → Nat → α) (o k : Nat) (v : α) : zw_u f o k v o = fun j => if j = k then v else f o j := by
  funext j
  simp [zw_u]
theorem zw_u_off {α : Type} (f : Nat → Nat → α) {o o' : Nat} (k : Nat) (v : α) (h : o' ≠ o) : zw_u f o k v o' = f o' := by
  funext j
  simp [zw_u, h]
abbrev zw_B : Type := Nat × (Nat → Nat)
def zw_ad (B : zw_B) (k : Nat) : Nat := if k < 1000 then B.1 + k - 1 else B.2 k
def zw_ro (B : zw_B) (r : Nat) : Option Nat := if r = 0 then none else some (zw_ad B r)
def zw_cv (B : zw_B) (v : Value) : Value := match v with
  | .ref k => .ref (zw_ad B k)
  | w => w
theorem zw_cv_cat (B : zw_B) (v : Value) : (zw_cv B v).category = v.category := by cases v <;> rfl
theorem zw_cv_null {B : zw_B} {v : Value} (h : v ≠ .null) : zw_cv B v ≠ .null := by cases v <;> simp_all [zw_cv]
def zw_isR (c j : Nat) : Bool := match zw_ty c j with
  | .object _ => true
  | .array _ => true
  | _ => false
def zw_fv (B : zw_B) (S : aS) (c o j : Nat) : Value := if zw_isR c j = true then va_rf (zw_ro B (S.2.1 o j)) else .int (S.1 o j)
def zw_fs (B : zw_B) (S : aS) (c o : Nat) : List Value := (List.range (zw_NF c)).map (zw_fv B S c o)
def zw_cel (B : zw_B) (ca : Nat → ClassId) (S : aS) (o : Nat) : va_E :=
  if (zw_SH o).1 < 12 then .inr ((zw_SH o).1, zw_fs B S (zw_SH o).1 o)
  else if (zw_SH o).1 < 16 then (if (zw_SH o).1 = 14 then .inl (ca 14, (zw_SH o).2, .inr (.inl (S.2.2 o))) else .inl (ca (zw_SH o).1, (zw_SH o).2, .inl (S.1 o)))
  else .inl (ca (zw_SH o).1, (zw_SH o).2, .inr (.inr (.inr (.inr (fun j => zw_ro B (S.2.1 o j))))))
def zw_wl (B : zw_B) (ca : Nat → ClassId) (n : Nat) (S : aS) : va_W := (List.range n).map (fun k => (zw_ad B (k + 1), zw_cel B ca S (k + 1)))
theorem zw_ad_lt {B : zw_B} {k : Nat} (h : k < 1000) : zw_ad B k = B.1 + k - 1 := by simp [zw_ad, h]
theorem zw_wl_get (B : zw_B) (ca : Nat → ClassId) {n o : Nat} (S : aS) (h1 : 1 ≤ o) (h2 : o ≤ n) : (zw_wl B ca n S)[o - 1]? = some (zw_ad B o, zw_cel B ca S o) := by
  have h3 : o - 1 < n := by omega
  have h4 : o - 1 + 1 = o := by omega
  simp [zw_wl, h3, h4]
theorem zw_wl_at {B : zw_B} {ca : Nat → ClassId} {n : Nat} {S : aS} {i : Nat} {q : Nat × va_E} (h : (zw_wl B ca n S)[i]? = some q) : i < n ∧ q = (zw_ad B (i + 1), zw_cel B ca S (i + 1)) := by
  unfold zw_wl at h
  rw [List.getElem?_map] at h
  cases hr : (List.range n)[i]? with
  | none => rw [hr] at h; cases h
  | some x =>
    rw [hr] at h
    have hx := List.getElem?_eq_some_iff.mp hr
    obtain ⟨hl, hx⟩ := hx
    rw [List.length_range] at hl
    rw [List.getElem_range] at hx
    subst hx
    exact ⟨hl, (Option.some.inj h).symm⟩
theorem zw_wl_D (B : zw_B) (ca : Nat → ClassId) {n : Nat} (S : aS) (hn : n < 1000) : va_D (fun q => B.1 ≤ q) (zw_wl B ca n S) := by
  refine ⟨fun i j x y hi hj hxy => ?_, fun i x hi => ?_⟩
  · obtain ⟨h1, rfl⟩ := zw_wl_at hi
    obtain ⟨h2, rfl⟩ := zw_wl_at hj
    have h3 : zw_ad B (i + 1) = zw_ad B (j + 1) := hxy
    rw [zw_ad_lt (by omega), zw_ad_lt (by omega)] at h3
    omega
  · obtain ⟨h1, rfl⟩ := zw_wl_at hi
    show B.1 ≤ zw_ad B (i + 1)
    rw [zw_ad_lt (by omega)]
    omega
theorem zw_wl_set (B : zw_B) (ca : Nat → ClassId) {n o : Nat} (S S' : aS) {e : va_E} (h1 : 1 ≤ o) (h2 : o ≤ n) (he : zw_cel B ca S' o = e) (ho : ∀ o', o' ≠ o → zw_cel B ca S' o' = zw_cel B ca S o') : (zw_wl B ca n S).set (o - 1) (zw_ad B o, e) = zw_wl B ca n S' := by
  apply List.ext_getElem?
  intro i
  rw [List.getElem?_set]
  by_cases hi : o - 1 = i
  · subst hi
    have hl : (zw_wl B ca n S).length = n := by simp [zw_wl]
    rw [if_pos rfl, if_pos (by omega), zw_wl_get B ca S' h1 h2, he]
  · rw [if_neg hi]
    by_cases hin : i < n
    · have e1 := zw_wl_get B ca S (o := i + 1) (n := n) (by omega) (by omega)
      have e2 := zw_wl_get B ca S' (o := i + 1) (n := n) (by omega) (by omega)
      rw [Nat.add_sub_cancel] at e1 e2
      rw [e1, e2, ho (i + 1) (by omega)]
    · have e1 : (zw_wl B ca n S)[i]? = none := by simp [zw_wl]; omega
      have e2 : (zw_wl B ca n S')[i]? = none := by simp [zw_wl]; omega
      rw [e1, e2]
theorem zw_wl_push (B : zw_B) (ca : Nat → ClassId) {n : Nat} (S : aS) : zw_wl B ca (n + 1) S = zw_wl B ca n S ++ [(zw_ad B (n + 1), zw_cel B ca S (n + 1))] := by
  simp [zw_wl, List.range_succ]
theorem zw_cel_off (B : zw_B) (ca : Nat → ClassId) {S S' : aS} {o : Nat} (h1 : S'.1 o = S.1 o) (h2 : S'.2.1 o = S.2.1 o) (h3 : S'.2.2 o = S.2.2 o) : zw_cel B ca S' o = zw_cel B ca S o := by
  have e : zw_fs B S' (zw_SH o).1 o = zw_fs B S (zw_SH o).1 o := by
    unfold zw_fs
    apply List.map_congr_left
    intro j _
    simp only [zw_fv, h1, h2]
  unfold zw_cel
  rw [e, h1, h2, h3]
theorem zw_cel_o (B : zw_B) (ca : Nat → ClassId) (S : aS) {o c N : Nat} (h : zw_SH o = (c, N)) (hc : c < 12) : zw_cel B ca S o = .inr (c, zw_fs B S c o) := by simp [zw_cel, h, hc]
theorem zw_cel_i (B : zw_B) (ca : Nat → ClassId) (S : aS) {o c N : Nat} (h : zw_SH o = (c, N)) (hc : 12 ≤ c ∧ c < 16 ∧ c ≠ 14) : zw_cel B ca S o = .inl (ca c, N, .inl (S.1 o)) := by
  have h1 : ¬ c < 12 := by omega
  simp [zw_cel, h, h1, hc.2.1, hc.2.2]
theorem zw_cel_l (B : zw_B) (ca : Nat → ClassId) (S : aS) {o N : Nat} (h : zw_SH o = (14, N)) : zw_cel B ca S o = .inl (ca 14, N, .inr (.inl (S.2.2 o))) := by simp [zw_cel, h]
theorem zw_cel_r (B : zw_B) (ca : Nat → ClassId) (S : aS) {o c N : Nat} (h : zw_SH o = (c, N)) (hc : 16 ≤ c) : zw_cel B ca S o = .inl (ca c, N, .inr (.inr (.inr (.inr (fun j => zw_ro B (S.2.1 o j)))))) := by
  have h1 : ¬ c < 12 := by omega
  have h2 : ¬ c < 16 := by omega
  simp [zw_cel, h, h1, h2]
theorem zw_fs_get (B : zw_B) (S : aS) {c o j : Nat} (h : j < zw_NF c) : (zw_fs B S c o)[j]? = some (zw_fv B S c o j) := by simp [zw_fs, h]
theorem zw_fs_len (B : zw_B) (S : aS) (c o : Nat) : (zw_fs B S c o).length = zw_NF c := by simp [zw_fs]
theorem zw_fs_set (B : zw_B) {S S' : aS} {c o j : Nat} {v : Value} (hj : j < zw_NF c) (hv : zw_fv B S' c o j = v) (ho : ∀ i, i ≠ j → zw_fv B S' c o i = zw_fv B S c o i) : zw_fs B S' c o = (zw_fs B S c o).set j v := by
  apply List.ext_getElem?
  intro i
  rw [List.getElem?_set]
  by_cases hi : j = i
  · subst hi
    rw [if_pos rfl, zw_fs_len, if_pos hj, zw_fs_get B S' hj, hv]
  · rw [if_neg hi]
    by_cases hin : i < zw_NF c
    · rw [zw_fs_get B S' hin, zw_fs_get B S hin, ho i (fun h => hi h.symm)]
    · have e1 : (zw_fs B S c o)[i]? = none := by simp [zw_fs]; omega
      have e2 : (zw_fs B S' c o)[i]? = none := by simp [zw_fs]; omega
      rw [e1, e2]
/-- locals: a list by place, null: nothing is known there -/
def zw_L (B : zw_B) (ls : Array Slot) (nL : Nat) (L : List Value) : Prop := ls.size = nL ∧ lv_wf ls ∧ ∀ (i : Nat) (v : Value), L[i]? = some v → v ≠ .null → ls[i]? = some (.val (zw_cv B v))
def zw_as (B : zw_B) (L : List Value) : List (Nat × Value) := ((List.range L.length).filter (fun i => decide (L.getD i .null ≠ .null))).map (fun i => (i, zw_cv B (L.getD i .null)))
theorem zw_as_in {B : zw_B} {L : List Value} {i : Nat} {v : Value} (h : L[i]? = some v) (hv : v ≠ .null) : (i, zw_cv B v) ∈ zw_as B L := by
  have hl := (List.getElem?_eq_some_iff.mp h).1
  have hg : L.getD i .null = v := by rw [List.getD_eq_getElem?_getD, h]; rfl
  refine List.mem_map.mpr ⟨i, List.mem_filter.mpr ⟨List.mem_range.mpr hl, ?_⟩, ?_⟩
  · rw [hg]; exact decide_eq_true hv
  · rw [hg]
theorem zw_as_of {B : zw_B} {L : List Value} {q : Nat × Value} (h : q ∈ zw_as B L) : ∃ v, L[q.1]? = some v ∧ v ≠ .null ∧ q.2 = zw_cv B v := by
  obtain ⟨i, hi, rfl⟩ := List.mem_map.mp h
  obtain ⟨h1, h2⟩ := List.mem_filter.mp hi
  have hl := List.mem_range.mp h1
  refine ⟨L.getD i .null, ?_, of_decide_eq_true h2, rfl⟩
  show L[i]? = _
  rw [List.getD_eq_getElem?_getD]
  simp [hl]
theorem zw_L.has {B : zw_B} {ls : Array Slot} {nL : Nat} {L : List Value} (h : zw_L B ls nL L) : lv_has ls nL (zw_as B L) := by
  refine ⟨h.1, h.2.1, fun q hq => ?_⟩
  obtain ⟨v, h1, h2, h3⟩ := zw_as_of hq
  rw [h3]
  exact h.2.2 q.1 v h1 h2
theorem zw_L.get {B : zw_B} {ls : Array Slot} {nL : Nat} {L : List Value} (h : zw_L B ls nL L) {i : Nat} {v : Value} (hv : L.getD i .null = v) (hn : v ≠ .null) : ls[i]? = some (.val (zw_cv B v)) := by
  refine h.2.2 i v ?_ hn
  rw [List.getD_eq_getElem?_getD] at hv
  cases hg : L[i]? with
  | none => rw [hg] at hv; exact absurd hv.symm hn
  | some w => rw [hg] at hv; exact congrArg some hv
def zw_k1 (L : List Value) (i : Nat) : List Value := match i with
  | 0 => L
  | j + 1 => match L.getD j .null with
    | .long _ => L.set j .null
    | .double _ => L.set j .null
    | _ => L
def zw_s1 (L : List Value) (i : Nat) (v : Value) : List Value := (zw_k1 L i).set i v
def zw_s2 (L : List Value) (i : Nat) (v : Value) : List Value := ((zw_k1 L i).set i v).set (i + 1) .null
theorem zw_k1_at {L : List Value} {i j : Nat} {v : Value} (h : (zw_k1 L i)[j]? = some v) (hv : v ≠ .null) : L[j]? = some v ∧ ¬ (j + 1 = i ∧ v.category = 2) := by
  cases i with
  | zero => exact ⟨h, fun q => by omega⟩
  | succ a =>
    by_cases hj : j = a
    · subst hj
      have key : ∀ w, L.getD j .null = w → (w.category = 2 → False) → zw_k1 L (j + 1) = L → (L[j]? = some v ∧ ¬ (j + 1 = j + 1 ∧ v.category = 2)) := by
        intro w hw hc he
        rw [he] at h
        refine ⟨h, fun q => hc ?_⟩
        rw [List.getD_eq_getElem?_getD, h] at hw
        have : v = w := hw
        rw [← this]; exact q.2
      cases hg : L.getD j .null with
      | long x =>
        exfalso
        have e : zw_k1 L (j + 1) = L.set j .null := by simp only [zw_k1, hg]
        rw [e, List.getElem?_set] at h
        simp only [if_true] at h
        split at h
        · exact hv (Option.some.inj h).symm
        · cases h
      | double x =>
        exfalso
        have e : zw_k1 L (j + 1) = L.set j .null := by simp only [zw_k1, hg]
        rw [e, List.getElem?_set] at h
        simp only [if_true] at h
        split at h
        · exact hv (Option.some.inj h).symm
        · cases h
      | int x => exact key _ hg (by simp [Value.category]) (by simp only [zw_k1, hg])
      | float x => exact key _ hg (by simp [Value.category]) (by simp only [zw_k1, hg])
      | null => exact key _ hg (by simp [Value.category]) (by simp only [zw_k1, hg])
      | ref x => exact key _ hg (by simp [Value.category]) (by simp only [zw_k1, hg])
      | retAddr x => exact key _ hg (by simp [Value.category]) (by simp only [zw_k1, hg])
    · refine ⟨?_, fun q => hj (by omega)⟩
      unfold zw_k1 at h
      dsimp only at h
      split at h
      · rw [List.getElem?_set_ne (fun q => hj q.symm)] at h; exact h
      · rw [List.getElem?_set_ne (fun q => hj q.symm)] at h; exact h
      · exact h
theorem zw_k1_len (L : List Value) (i : Nat) : (zw_k1 L i).length = L.length := by
  cases i with
  | zero => rfl
  | succ a =>
    unfold zw_k1
    dsimp only
    split <;> simp
theorem zw_L.set1 {B : zw_B} {ls' : Array Slot} {nL i : Nat} {L : List Value} {v : Value} (h : lv_has ls' nL ((i, zw_cv B v) :: (zw_as B L).filter (fun q => !(q.1 == i) && !(q.1 + 1 == i && q.2.category == 2)))) : zw_L B ls' nL (zw_s1 L i v) := by
  refine ⟨h.1, h.2.1, fun j w hj hw => ?_⟩
  unfold zw_s1 at hj
  by_cases hij : i = j
  · subst hij
    rw [List.getElem?_set] at hj
    simp only [if_true] at hj
    split at hj
    · cases hj
      exact h.2.2 (i, zw_cv B v) List.mem_cons_self
    · cases hj
  · rw [List.getElem?_set_ne hij] at hj
    obtain ⟨h1, h2⟩ := zw_k1_at hj hw
    refine h.2.2 (j, zw_cv B w) (List.mem_cons_of_mem _ (List.mem_filter.mpr ⟨zw_as_in h1 hw, ?_⟩))
    simp only [Bool.and_eq_true, Bool.not_eq_true', beq_eq_false_iff_ne, ne_eq, Bool.and_eq_false_iff, zw_cv_cat]
    refine ⟨fun q => hij q.symm, ?_⟩
    by_cases q1 : j + 1 = i
    · exact Or.inr (fun q2 => h2 ⟨q1, q2⟩)
    · exact Or.inl q1
theorem zw_L.set2 {B : zw_B} {ls' : Array Slot} {nL i : Nat} {L : List Value} {v : Value} (h : lv_has ls' nL ((i, zw_cv B v) :: (zw_as B L).filter (fun q => !(q.1 == i) && (!(q.1 == i + 1) && !(q.1 + 1 == i && q.2.category == 2))))) : zw_L B ls' nL (zw_s2 L i v) := by
  refine ⟨h.1, h.2.1, fun j w hj hw => ?_⟩
  unfold zw_s2 at hj
  by_cases hij1 : i + 1 = j
  · subst hij1
    rw [List.getElem?_set] at hj
    simp only [if_true] at hj
    split at hj
    · cases hj
      exact absurd rfl hw
    · cases hj
  · rw [List.getElem?_set_ne hij1] at hj
    by_cases hij : i = j
    · subst hij
      rw [List.getElem?_set] at hj
      simp only [if_true] at hj
      split at hj
      · cases hj
        exact h.2.2 (i, zw_cv B v) List.mem_cons_self
      · cases hj
    · rw [List.getElem?_set_ne hij] at hj
      obtain ⟨h1, h2⟩ := zw_k1_at hj hw
      refine h.2.2 (j, zw_cv B w) (List.mem_cons_of_mem _ (List.mem_filter.mpr ⟨zw_as_in h1 hw, ?_⟩))
      simp only [Bool.and_eq_true, Bool.not_eq_true', beq_eq_false_iff_ne, ne_eq, Bool.and_eq_false_iff, zw_cv_cat]
      refine ⟨fun q => hij q.symm, fun q => hij1 q.symm, ?_⟩
      by_cases q1 : j + 1 = i
      · exact Or.inr (fun q2 => h2 ⟨q1, q2⟩)
      · exact Or.inl q1
