/-! ===== the rules as the printed walks take them: all 199 cells stand, no cell is made; the state is a triple of its parts ===== -/
abbrev zI : Type := Nat → Nat → Int32
abbrev zR : Type := Nat → Nat → Nat
abbrev zJ : Type := Nat → Nat → Int64
abbrev zy_V (X : zw_X) (M : zw_M) (d : Nat) (P : Option Value → aS → Prop) (pc : Nat) (L st : List Value) (S : aS) : Prop := zw_V X M d 0 0 199 P pc 0 0 L st S
/-! pure combinators and what they say -/
def zw_g {α : Type} (b : Bool) (x : Option α) : Option α := match b with
  | true => x
  | false => none
def zw_let {α β : Type} (a : α) (f : α → β) : β := f a
def zw_it {σ ρ : Type} (step : σ → Option (σ ⊕ ρ)) : Nat → σ → Option ρ
  | 0, _ => none
  | n + 1, s => (step s).bind fun o => match o with
    | .inl t => zw_it step n t
    | .inr r => some r
abbrev zw_se {α β : Type} (f : α → Prop) (g : β → Prop) (o : α ⊕ β) : Prop := match o with
  | .inl a => f a
  | .inr b => g b
def zw_gc (o c : Nat) : Bool := decide ((zw_SH o).1 = c)
def zw_in (i : Int32) (n : Nat) : Bool := decide (¬ (i < 0 ∨ n ≤ i.toNatClampNeg))
def zw_b (v : Int32) : Bool := decide (v = 0 ∨ v = 1)
def zw_n0 (v : Int32) : Bool := decide (¬ v = 0)
theorem zw_gE {α : Type} {b : Bool} {x : Option α} {r : α} (h : zw_g b x = some r) : b = true ∧ x = some r := by
  cases b with
  | true => exact ⟨rfl, h⟩
  | false => cases h
def zw_K (o c : Nat) : Prop := (zw_SH o).1 = c ∧ 1 ≤ o ∧ o ≤ 199
theorem zw_SH_in {o : Nat} (h : (zw_SH o).1 ≠ 99) : 1 ≤ o ∧ o ≤ 199 := by
  have hl : zw_shl.length = 200 := by decide +kernel
  constructor
  · rcases Nat.eq_zero_or_pos o with rfl | h1
    · exact absurd (by decide +kernel) h
    · exact h1
  · rcases Nat.lt_or_ge 199 o with h1 | h1
    · exfalso
      apply h
      have : zw_SH o = (99, 0) := by
        unfold zw_SH
        rw [List.getD_eq_getElem?_getD, List.getElem?_eq_none (by omega)]
        rfl
      rw [this]
    · exact h1
theorem zw_gcK {o c : Nat} (hc : c < 19) (h : zw_gc o c = true) : zw_K o c := by
  have h1 : (zw_SH o).1 = c := of_decide_eq_true h
  exact ⟨h1, zw_SH_in (by omega)⟩
theorem zw_gcE {α : Type} {o c : Nat} {x : Option α} {r : α} (h : zw_g (zw_gc o c) x = some r) (hc : c < 19) : zw_K o c ∧ x = some r := by
  obtain ⟨h1, h2⟩ := zw_gE h
  exact ⟨zw_gcK hc h1, h2⟩
theorem zw_inE {α : Type} {i : Int32} {n : Nat} {x : Option α} {r : α} (h : zw_g (zw_in i n) x = some r) : vp_in i n ∧ x = some r := by
  obtain ⟨h1, h2⟩ := zw_gE h
  have h3 : ¬ (i < 0 ∨ n ≤ i.toNatClampNeg) := of_decide_eq_true h1
  exact ⟨h3, h2⟩
theorem zw_bE {α : Type} {v : Int32} {x : Option α} {r : α} (h : zw_g (zw_b v) x = some r) : (v = 0 ∨ v = 1) ∧ x = some r := by
  obtain ⟨h1, h2⟩ := zw_gE h
  exact ⟨of_decide_eq_true h1, h2⟩
theorem zw_n0E {α : Type} {v : Int32} {x : Option α} {r : α} (h : zw_g (zw_n0 v) x = some r) : (¬ v = 0) ∧ x = some r := by
  obtain ⟨h1, h2⟩ := zw_gE h
  exact ⟨of_decide_eq_true h1, h2⟩
theorem zw_letE {α β : Type} {a : α} {f : α → Option β} {r : β} (h : zw_let a f = some r) : ∃ x, x = a ∧ f x = some r := ⟨a, rfl, h⟩
theorem zw_bdE {α β : Type} {a : Option α} {f : α → Option β} {r : β} (h : a.bind f = some r) : ∃ x, a = some x ∧ f x = some r := by
  cases a with
  | none => cases h
  | some x => exact ⟨x, rfl, h⟩
theorem zw_ifE {α : Type} {c : Prop} [Decidable c] {a b : Option α} {r : α} (h : (if c then a else b) = some r) : (c ∧ a = some r) ∨ (¬ c ∧ b = some r) := by
  by_cases hc : c
  · rw [if_pos hc] at h; exact Or.inl ⟨hc, h⟩
  · rw [if_neg hc] at h; exact Or.inr ⟨hc, h⟩
theorem zw_itE {σ ρ : Type} {step : σ → Option (σ ⊕ ρ)} {A : σ → Prop} {Q : ρ → Prop} (h : ∀ s o, step s = some o → zw_se A Q o → A s) : ∀ (n : Nat) (s : σ) (r : ρ), zw_it step n s = some r → Q r → A s
  | 0, s, r, he, _ => by cases he
  | n + 1, s, r, he, hq => by
    obtain ⟨o, h1, h2⟩ := zw_bdE (a := step s) he
    refine h s o h1 ?_
    cases o with
    | inl t => exact zw_itE h n t r h2 hq
    | inr r2 => cases h2; exact hq
/-- fewer locals are enough -/
def zw_le : List Value → List Value → Prop
  | [], _ => True
  | v :: l, w :: m => (v = .null ∨ v = w) ∧ zw_le l m
  | _ :: _, [] => False
theorem zw_le_at : ∀ {l m : List Value}, zw_le l m → ∀ (i : Nat) (v : Value), l[i]? = some v → v ≠ .null → m[i]? = some v
  | [], _, _, i, v, h, _ => by simp at h
  | a :: l, [], h, _, _, _, _ => h.elim
  | a :: l, b :: m, h, i, v, hi, hv => by
    cases i with
    | zero =>
      cases hi
      rcases h.1 with h1 | h1
      · exact absurd h1 hv
      · rw [h1]; rfl
    | succ j => exact zw_le_at h.2 j v hi hv
theorem zw_leZ {m : List Value} : zw_le [] m := trivial
theorem zw_leN {l m : List Value} {w : Value} (h : zw_le l m) : zw_le (.null :: l) (w :: m) := ⟨Or.inl rfl, h⟩
theorem zw_leS {l m : List Value} {w : Value} (h : zw_le l m) : zw_le (w :: l) (w :: m) := ⟨Or.inr rfl, h⟩
section
variable {X : zw_X} {M : zw_M} {d : Nat} {P : Option Value → aS → Prop} {pc : Nat} {L st : List Value} {I : zI} {R : zR} {J : zJ}
theorem zx_weak {L' : List Value} (hl : zw_le L' L) (h : zy_V X M d P pc L' st (I, R, J)) : zy_V X M d P pc L st (I, R, J) := fun l p e s m args below meth c H locs B D ca ls hA =>
  h l p e s m args below meth c H locs B D ca ls ⟨hA.1, hA.2.1, hA.2.2.1, hA.2.2.2.1, hA.2.2.2.2.1, hA.2.2.2.2.2.1, ⟨hA.2.2.2.2.2.2.1, hA.2.2.2.2.2.2.2.1, fun i v hi hv => hA.2.2.2.2.2.2.2.2 i v (zw_le_at hl i v hi hv) hv⟩⟩
def zw_FL (own : String) (i c j : Nat) (f : Bool) : Prop := ∃ r : vw_C, zw_cl[c]? = some r ∧ j < r.2.2 ∧ Cond.fieldLink own i r.1 (r.2.1 j).2.1 (r.2.1 j).2.2.1 ∈ zw_TG ∧ (r.2.1 j).2.2.2 = f
theorem zx_istore {i : Nat} {x x2 : Int32} {L2 : List Value} (hd : decode M.2.1 pc = .ok (.istore i, 2)) (hn : i < M.2.2.1) (hx : x2 = x) (hL : zw_s1 L i (.int x2) = L2) (h : zy_V X M d P (pc + 2) (L2) (st) (I, R, J)) : zy_V X M d P (pc) (L) (.int x :: st) (I, R, J) := by
  subst hx
  subst hL
  exact zv_istore hd hn h
theorem zx_istore_n {i : Fin 4} {x x2 : Int32} {L2 : List Value} (hd : decode M.2.1 pc = .ok (.istore_n i, 1)) (hn : i.val < M.2.2.1) (hx : x2 = x) (hL : zw_s1 L i.val (.int x2) = L2) (h : zy_V X M d P (pc + 1) (L2) (st) (I, R, J)) : zy_V X M d P (pc) (L) (.int x :: st) (I, R, J) := by
  subst hx
  subst hL
  exact zv_istore_n hd hn h
theorem zx_lstore {i : Nat} {x x2 : Int64} {L2 : List Value} (hd : decode M.2.1 pc = .ok (.lstore i, 2)) (hn : i + 1 < M.2.2.1) (hx : x2 = x) (hL : zw_s2 L i (.long x2) = L2) (h : zy_V X M d P (pc + 2) (L2) (st) (I, R, J)) : zy_V X M d P (pc) (L) (.long x :: st) (I, R, J) := by
  subst hx
  subst hL
  exact zv_lstore hd hn h
theorem zx_lstore_n {i : Fin 4} {x x2 : Int64} {L2 : List Value} (hd : decode M.2.1 pc = .ok (.lstore_n i, 1)) (hn : i.val + 1 < M.2.2.1) (hx : x2 = x) (hL : zw_s2 L i.val (.long x2) = L2) (h : zy_V X M d P (pc + 1) (L2) (st) (I, R, J)) : zy_V X M d P (pc) (L) (.long x :: st) (I, R, J) := by
  subst hx
  subst hL
  exact zv_lstore_n hd hn h
theorem zx_astore {i x : Nat} {L2 : List Value} (hd : decode M.2.1 pc = .ok (.astore i, 2)) (hn : i < M.2.2.1) (hL : zw_s1 L i (.ref x) = L2) (h : zy_V X M d P (pc + 2) (L2) (st) (I, R, J)) : zy_V X M d P (pc) (L) (.ref x :: st) (I, R, J) := by
  subst hL
  exact zv_astore hd hn h
theorem zx_astore_n {i : Fin 4} {x : Nat} {L2 : List Value} (hd : decode M.2.1 pc = .ok (.astore_n i, 1)) (hn : i.val < M.2.2.1) (hL : zw_s1 L i.val (.ref x) = L2) (h : zy_V X M d P (pc + 1) (L2) (st) (I, R, J)) : zy_V X M d P (pc) (L) (.ref x :: st) (I, R, J) := by
  subst hL
  exact zv_astore_n hd hn h
theorem zx_iinc {i : Nat} {z : Int} {x v x2 : Int32} {L2 : List Value} (hd : decode M.2.1 pc = .ok (.iinc i z, 3)) (hn : i < M.2.2.1) (hi : L.getD i .null = .int x) (hv : Int32.ofInt z = v) (hx : x2 = x + v) (hL : zw_s1 L i (.int x2) = L2) (h : zy_V X M d P (pc + 3) (L2) (st) (I, R, J)) : zy_V X M d P (pc) (L) (st) (I, R, J) := by
  subst hx
  subst hL
  exact zv_iinc hd hn hi hv h
theorem zx_getI {o c j i : Nat} {f : Bool} (hd : decode M.2.1 pc = .ok (.getfield i, 3)) (hl : zw_FL M.1.cls i c j f) (hR : zw_isR c j = false) (hg : zw_K o c) (h : zy_V X M d P (pc + 3) (L) (.int (I o j) :: st) (I, R, J)) : zy_V X M d P (pc) (L) (.ref o :: st) (I, R, J) := by
  obtain ⟨r, h1, h2, h3, h4⟩ := hl
  exact zv_getI hd h1 h2 h3 hR hg.2 hg.1 h
theorem zx_getR {o c c2 j i : Nat} {f : Bool} (hd : decode M.2.1 pc = .ok (.getfield i, 3)) (hl : zw_FL M.1.cls i c j f) (hR : zw_isR c j = true) (hg : zw_K o c) (hg2 : zw_K (R o j) c2) (h : zy_V X M d P (pc + 3) (L) (.ref (R o j) :: st) (I, R, J)) : zy_V X M d P (pc) (L) (.ref o :: st) (I, R, J) := by
  obtain ⟨r, h1, h2, h3, h4⟩ := hl
  exact zv_getR hd h1 h2 h3 hR hg.2 hg.1 (fun q => by have := hg2.2.1; rw [show R o j = 0 from q] at this; omega) h
theorem zx_putI {o c j i : Nat} {v : Int32} {I2 : zI} (hd : decode M.2.1 pc = .ok (.putfield i, 3)) (hl : zw_FL M.1.cls i c j false) (ht : zw_ty c j = .int) (hg : zw_K o c) (hI : I2 = zw_u I o j v) (h : zy_V X M d P (pc + 3) (L) (st) (I2, R, J)) : zy_V X M d P (pc) (L) (.int v :: .ref o :: st) (I, R, J) := by
  obtain ⟨r, h1, h2, h3, h4⟩ := hl
  subst hI
  exact zv_putI hd h1 h2 h3 h4 (Or.inl ht) hg.2 hg.1 h
theorem zx_putZ {o c j i : Nat} {v : Int32} {I2 : zI} (hd : decode M.2.1 pc = .ok (.putfield i, 3)) (hl : zw_FL M.1.cls i c j false) (ht : zw_ty c j = .boolean) (hv : v = 0 ∨ v = 1) (hg : zw_K o c) (hI : I2 = zw_u I o j v) (h : zy_V X M d P (pc + 3) (L) (st) (I2, R, J)) : zy_V X M d P (pc) (L) (.int v :: .ref o :: st) (I, R, J) := by
  obtain ⟨r, h1, h2, h3, h4⟩ := hl
  subst hI
  exact zv_putI hd h1 h2 h3 h4 (Or.inr ⟨ht, hv⟩) hg.2 hg.1 h
theorem zx_putR {o c c2 j i v : Nat} {R2 : zR} (hd : decode M.2.1 pc = .ok (.putfield i, 3)) (hl : zw_FL M.1.cls i c j false) (hR : zw_isR c j = true) (hg : zw_K o c) (hg2 : zw_K v c2) (hI : R2 = zw_u R o j v) (h : zy_V X M d P (pc + 3) (L) (st) (I, R2, J)) : zy_V X M d P (pc) (L) (.ref v :: .ref o :: st) (I, R, J) := by
  obtain ⟨r, h1, h2, h3, h4⟩ := hl
  subst hI
  exact zv_putR hd h1 h2 h3 (Or.inl h4) hR hg.2 hg.1 (fun q => by have := hg2.2.1; omega) h
theorem zx_iald {o : Nat} {i : Int32} (hd : decode M.2.1 pc = .ok (.iaload, 1)) (hg : zw_K o 13) (hi : vp_in i (zw_SH o).2) (h : zy_V X M d P (pc + 1) (L) (.int (I o i.toNatClampNeg) :: st) (I, R, J)) : zy_V X M d P (pc) (L) (.int i :: .ref o :: st) (I, R, J) := zv_iald hd hg.2 hg.1 hi h
theorem zx_bald {o : Nat} {i : Int32} (hd : decode M.2.1 pc = .ok (.baload, 1)) (hg : zw_K o 12) (hi : vp_in i (zw_SH o).2) (h : zy_V X M d P (pc + 1) (L) (.int (I o i.toNatClampNeg) :: st) (I, R, J)) : zy_V X M d P (pc) (L) (.int i :: .ref o :: st) (I, R, J) := zv_bald hd hg.2 hg.1 hi h
theorem zx_zald {o : Nat} {i : Int32} (hd : decode M.2.1 pc = .ok (.baload, 1)) (hg : zw_K o 15) (hi : vp_in i (zw_SH o).2) (h : zy_V X M d P (pc + 1) (L) (.int (I o i.toNatClampNeg) :: st) (I, R, J)) : zy_V X M d P (pc) (L) (.int i :: .ref o :: st) (I, R, J) := zv_zald hd hg.2 hg.1 hi h
theorem zx_lald {o : Nat} {i : Int32} (hd : decode M.2.1 pc = .ok (.laload, 1)) (hg : zw_K o 14) (hi : vp_in i (zw_SH o).2) (h : zy_V X M d P (pc + 1) (L) (.long (J o i.toNatClampNeg) :: st) (I, R, J)) : zy_V X M d P (pc) (L) (.int i :: .ref o :: st) (I, R, J) := zv_lald hd hg.2 hg.1 hi h
theorem zx_aald {o c c2 : Nat} {i : Int32} (hd : decode M.2.1 pc = .ok (.aaload, 1)) (hg : zw_K o c) (hc : c = 16 ∨ c = 17 ∨ c = 18) (hi : vp_in i (zw_SH o).2) (hg2 : zw_K (R o i.toNatClampNeg) c2) (h : zy_V X M d P (pc + 1) (L) (.ref (R o i.toNatClampNeg) :: st) (I, R, J)) : zy_V X M d P (pc) (L) (.int i :: .ref o :: st) (I, R, J) := zv_aald hd hg.2 hg.1 hc hi (fun q => by have := hg2.2.1; rw [show R o i.toNatClampNeg = 0 from q] at this; omega) h
theorem zx_iast {o : Nat} {i v : Int32} {I2 : zI} (hd : decode M.2.1 pc = .ok (.iastore, 1)) (hg : zw_K o 13) (hi : vp_in i (zw_SH o).2) (hI : I2 = zw_u I o i.toNatClampNeg v) (h : zy_V X M d P (pc + 1) (L) (st) (I2, R, J)) : zy_V X M d P (pc) (L) (.int v :: .int i :: .ref o :: st) (I, R, J) := by
  subst hI
  exact zv_iast hd hg.2 hg.1 hi h
theorem zx_bast {o : Nat} {i v : Int32} {I2 : zI} (hd : decode M.2.1 pc = .ok (.bastore, 1)) (hg : zw_K o 12) (hi : vp_in i (zw_SH o).2) (hI : I2 = zw_u I o i.toNatClampNeg v.toInt8.toInt32) (h : zy_V X M d P (pc + 1) (L) (st) (I2, R, J)) : zy_V X M d P (pc) (L) (.int v :: .int i :: .ref o :: st) (I, R, J) := by
  subst hI
  exact zv_bast hd hg.2 hg.1 hi h
theorem zx_zast {o : Nat} {i v : Int32} {I2 : zI} (hd : decode M.2.1 pc = .ok (.bastore, 1)) (hg : zw_K o 15) (hi : vp_in i (zw_SH o).2) (hv : v = 0 ∨ v = 1) (hI : I2 = zw_u I o i.toNatClampNeg v) (h : zy_V X M d P (pc + 1) (L) (st) (I2, R, J)) : zy_V X M d P (pc) (L) (.int v :: .int i :: .ref o :: st) (I, R, J) := by
  subst hI
  exact zv_zast hd hg.2 hg.1 hi hv h
theorem zx_last {o : Nat} {i : Int32} {v : Int64} {J2 : zJ} (hd : decode M.2.1 pc = .ok (.lastore, 1)) (hg : zw_K o 14) (hi : vp_in i (zw_SH o).2) (hI : J2 = zw_u J o i.toNatClampNeg v) (h : zy_V X M d P (pc + 1) (L) (st) (I, R, J2)) : zy_V X M d P (pc) (L) (.long v :: .int i :: .ref o :: st) (I, R, J) := by
  subst hI
  exact zv_last hd hg.2 hg.1 hi h
theorem zx_alen {o : Nat} (hd : decode M.2.1 pc = .ok (.arraylength, 1)) (hg : zw_K o 13) (h : zy_V X M d P (pc + 1) (L) (.int (Int32.ofNat (zw_SH o).2) :: st) (I, R, J)) : zy_V X M d P (pc) (L) (.ref o :: st) (I, R, J) := zv_alen hd hg.2 hg.1 h
theorem zx_iret {v : Int32} (hd : decode M.2.1 pc = .ok (.ireturn, 1)) (hr : M.2.2.2 = some .int) (h : P (some (.int v)) (I, R, J)) : zy_V X M d P (pc) (L) ([.int v]) (I, R, J) := zv_iret hd hr rfl rfl (Nat.le_refl _) h
theorem zx_zret {v : Int32} (hd : decode M.2.1 pc = .ok (.ireturn, 1)) (hr : M.2.2.2 = some .boolean) (hv : v = 0 ∨ v = 1) (h : P (some (.int v)) (I, R, J)) : zy_V X M d P (pc) (L) ([.int v]) (I, R, J) := zv_iret hd hr (by rcases hv with rfl | rfl <;> decide +kernel) rfl (Nat.le_refl _) h
theorem zx_cret {v : Int32} (hd : decode M.2.1 pc = .ok (.ireturn, 1)) (hr : M.2.2.2 = some .char) (h : P (some (.int (v.toUInt32 % 65536).toInt32)) (I, R, J)) : zy_V X M d P (pc) (L) ([.int (v.toUInt32 % 65536).toInt32]) (I, R, J) := zv_iret hd hr (pk_nc v) rfl (Nat.le_refl _) h
theorem zx_bret0  (hd : decode M.2.1 pc = .ok (.ireturn, 1)) (hr : M.2.2.2 = some .byte) (h : P (some (.int 0)) (I, R, J)) : zy_V X M d P (pc) (L) ([.int 0]) (I, R, J) := zv_iret hd hr (by decide +kernel) rfl (Nat.le_refl _) h
theorem zx_lret {v : Int64} (hd : decode M.2.1 pc = .ok (.lreturn, 1)) (hr : M.2.2.2 = some .long) (h : P (some (.long v)) (I, R, J)) : zy_V X M d P (pc) (L) ([.long v]) (I, R, J) := zv_lret hd hr rfl (Nat.le_refl _) h
theorem zx_aret {v : Nat} {C : String} (hd : decode M.2.1 pc = .ok (.areturn, 1)) (hr : M.2.2.2 = some (.object C)) (h : P (some (.ref v)) (I, R, J)) : zy_V X M d P (pc) (L) ([.ref v]) (I, R, J) := zv_aret hd hr rfl (Nat.le_refl _) h
theorem zx_vret  (hd : decode M.2.1 pc = .ok (.return_, 1)) (hr : M.2.2.2 = none) (h : P none (I, R, J)) : zy_V X M d P (pc) (L) ([]) (I, R, J) := zv_vret hd hr rfl (Nat.le_refl _) h
theorem zx_tsOut {a lo hi : Int} {offs : Array Int} {len : Nat} {x : Int32} {tg : Nat} (hd : decode M.2.1 pc = .ok (.tableswitch a lo hi offs, len)) (hx : x.toInt < lo ∨ hi < x.toInt) (ht : (pc : Int) + a = (tg : Int)) (h : zy_V X M d P (tg) (L) (st) (I, R, J)) : zy_V X M d P (pc) (L) (.int x :: st) (I, R, J) := fun l p e s m args below meth c H locs B D ca ls hA => lv_tableOut hA.1.1 hA.1.2.1 hd hx ht (h l p e s m args below meth c H locs B D ca ls hA)
theorem zx_tsIn {a lo hi : Int} {offs : Array Int} {len : Nat} {x : Int32} {z : Int} {tg : Nat} (hd : decode M.2.1 pc = .ok (.tableswitch a lo hi offs, len)) (h1 : ¬ x.toInt < lo) (h2 : ¬ hi < x.toInt) (ho : offs[(x.toInt - lo).toNat]? = some z) (ht : (pc : Int) + z = (tg : Int)) (h : zy_V X M d P (tg) (L) (st) (I, R, J)) : zy_V X M d P (pc) (L) (.int x :: st) (I, R, J) := fun l p e s m args below meth c H locs B D ca ls hA => lv_tableIn hA.1.1 hA.1.2.1 hd h1 h2 ho ht (h l p e s m args below meth c H locs B D ca ls hA)
theorem zx_lsw {a : Int} {ps : Array (Int × Int)} {len : Nat} {x : Int32} {z : Int} {tg : Nat} (hd : decode M.2.1 pc = .ok (.lookupswitch a ps, len)) (hp : (ps.toList.zip (ps.toList.drop 1)).all (fun (a, next) => a.1 < next.1) = true) (ho : Op.lookupswitch.offset ps.toList a x.toInt = z) (ht : (pc : Int) + z = (tg : Int)) (h : zy_V X M d P (tg) (L) (st) (I, R, J)) : zy_V X M d P (pc) (L) (.int x :: st) (I, R, J) := fun l p e s m args below meth c H locs B D ca ls hA => lv_lookup hA.1.1 hA.1.2.1 hd hp ho ht (h l p e s m args below meth c H locs B D ca ls hA)
theorem zx_callS {As : List Value} {i np d2 : Nat} {M2 : zw_M} {P2 : Option Value → aS → Prop} (hd : decode M.2.1 pc = .ok (.invokestatic i, 3)) (hw : Cond.methodLink M.1.cls i M2.1 ∈ zw_TG) (hce : zw_CeS M2 np) (hlen : (zw_fl (As)).length ≤ M2.2.2.1) (hnp : As.length = np) (hst : (st.map fun v => v.category).sum ≤ 8) (hdd : d2 < d) (hC : zw_C X M2 d2 0 0 199 (As) (I, R, J) P2) (hk : ∀ r S, P2 r S → zy_V X M d P (pc + 3) L (r.toList ++ st) S) : zy_V X M d P (pc) (L) (As.reverse ++ st) (I, R, J) := zv_callS (mc2 := 0) (ms2 := 0) hd hw hce hlen hnp hst hdd ⟨Nat.le_refl _, Nat.le_refl _⟩ (by decide) hC hk
theorem zx_callSN {As : List Value} {i np d2 : Nat} {M2 : zw_M} {P2 : Option Value → aS → Prop} (hd : decode M.2.1 pc = .ok (.invokestatic i, 3)) (hw : Cond.methodLinkNest M.1.cls i M2.1 "CutStones" ∈ zw_TN) (hce : zw_CeS M2 np) (hlen : (zw_fl (As)).length ≤ M2.2.2.1) (hnp : As.length = np) (hst : (st.map fun v => v.category).sum ≤ 8) (hdd : d2 < d) (hC : zw_C X M2 d2 0 0 199 (As) (I, R, J) P2) (hk : ∀ r S, P2 r S → zy_V X M d P (pc + 3) L (r.toList ++ st) S) : zy_V X M d P (pc) (L) (As.reverse ++ st) (I, R, J) := zv_callSN (mc2 := 0) (ms2 := 0) hd hw hce hlen hnp hst hdd ⟨Nat.le_refl _, Nat.le_refl _⟩ (by decide) hC hk
theorem zx_callV {As : List Value} {i o np d2 : Nat} {M2 : zw_M} {P2 : Option Value → aS → Prop} (hd : decode M.2.1 pc = .ok (.invokevirtual i, 3)) (hw : Cond.methodLink M.1.cls i M2.1 ∈ zw_TG) (hce : zw_CeV M2 np) (ho : zw_Rv 199 o M2.1.cls) (hlen : (zw_fl (.ref o :: As)).length ≤ M2.2.2.1) (hnp : As.length = np) (hst : (st.map fun v => v.category).sum ≤ 8) (hdd : d2 < d) (hC : zw_C X M2 d2 0 0 199 (.ref o :: As) (I, R, J) P2) (hk : ∀ r S, P2 r S → zy_V X M d P (pc + 3) L (r.toList ++ st) S) : zy_V X M d P (pc) (L) (As.reverse ++ .ref o :: st) (I, R, J) := zv_callV (mc2 := 0) (ms2 := 0) hd hw hce ho hlen hnp hst hdd ⟨Nat.le_refl _, Nat.le_refl _⟩ (by decide) hC hk
theorem zw_RvK {o c : Nat} {r : vw_C} {C : String} (h : zw_K o c) (h1 : zw_cl[c]? = some r) (h2 : r.1 = C) : zw_Rv 199 o C := Or.inl ⟨c, r, h.2.1, h.2.2, h.1, h1, h2⟩
theorem zw_neI {x c : Int32} {z : Int} (h : ¬ x = c) (hc : c.toInt = z) : ¬ x.toInt = z := fun e => h (Int32.toInt_inj.mp (e.trans hc.symm))
end
