/-! ===== what was there before: statics, texts, the script; the words of the tables ===== -/
def zw_sn (i : Nat) : String := ["WAY_X", "WAY_Y", "SIDES", "SIDE_SUMS", "MIRRORED", "WEIGHTS"].getD i ""
def zw_sl (i : Nat) : List Int32 := [[0, 1, 0, -1], [-1, 0, 1, 0], [0, 9, 3, 6, 12, 15, 15], [0, 3, 1, 3, 5, 0, 0], [0, 2, 1, 4, 3, 5, 6], [0, 1, 1, 1, 1, 2, 2]].getD i []
def zw_byt : List (List Int32) := [[115, 116, 117, 102, 102, 32, 32, 32, 99, 117, 116, 32, 32, 32, 32, 32, 114, 111, 117, 103, 104, 32, 32, 32, 103, 114, 97, 100, 101, 32, 32, 32, 112, 114, 105, 99, 101, 32, 32, 32, 101, 97, 116, 115, 32, 32, 32, 32, 105, 102, 32, 32, 32, 32, 32, 32, 111, 114, 32, 32, 32, 32, 32, 32, 97, 110, 100, 32, 32, 32, 32, 32, 110, 111, 116, 32, 32, 32, 32, 32, 98, 114, 105, 103, 104, 116, 32, 32, 108, 101, 97, 107, 32, 32, 32, 32, 100, 97, 114, 107, 32, 32, 32, 32, 117, 110, 101, 118, 101, 110, 32, 32, 102, 108, 97, 119, 115, 32, 32, 32, 119, 101, 105, 103, 104, 116, 32, 32, 119, 105, 100, 101, 32, 32, 32, 32, 99, 111, 108, 111, 117, 114, 32, 32], [46, 49, 50, 51, 52, 35, 120], [59, 58, 44, 43, 45, 42, 47, 40, 41, 60]]
def zw_len : List Nat := [144, 7, 10]
def zw_so (i : Nat) : String := ["CutStones$Tape", "CutStones", "CutStones$Tape"].getD i ""
def zw_si (i : Nat) : Nat := [71, 319, 84].getD i 0
def zw_stx (i : Nat) : String := ["stuff   cut     rough   grade   price   eats    if      or      and     not     bright  leak    dark    uneven  flaws   weight  wide    colour  ", ".1234#x", ";:,+-*/()<"].getD i ""
abbrev zw_X : Type := Nat × (Nat → Int32)
def zw_tys (ca : Nat → ClassId) : List (ClassId × FieldType) := [(ca 12, .byte), (ca 13, .int), (ca 14, .long), (ca 15, .boolean), (ca 16, .object "CutStones$Drawing"), (ca 17, .object "CutStones$Rule"), (ca 18, .object "CutStones$Stuff")]
def zw_TK (U : State) : Prop := (∀ w ∈ zw_TG, ∀ a : Array Value, w.before a U = true) ∧ (∀ w ∈ zw_TN, va_Nw w U) ∧ va_AO "CutStones$Drawing" U ∧ va_AO "CutStones$Rule" U ∧ va_AO "CutStones$Stuff" U
def zw_CK (X : zw_X) (B : zw_B) (U : State) : Prop :=
  (∀ i, i < 6 → va_Z "CutStones" (zw_sn i) "[I" (.ref (zw_ad B (1000 + i))) (fun q => B.1 ≤ q) U U.heap ∧ va_T .int (zw_ad B (1000 + i)) (zw_sl i).length (fun j => .int ((zw_sl i).getD j 0)) (fun q => B.1 ≤ q) U U.heap) ∧
  vk_S 3 zw_len zw_byt (fun i => zw_ad B (1006 + i)) (fun i => zw_ad B (1009 + i)) (fun q => B.1 ≤ q) U U.heap ∧
  (∀ i, i < 3 → vk_R (zw_so i) (zw_si i) (zw_stx i) (zw_ad B (1006 + i)) U) ∧
  (va_Z "java/lang/String" "COMPACT_STRINGS" "Z" (.int 1) (fun q => B.1 ≤ q) U U.heap ∧ (va_Z "jdk/internal/util/Preconditions" "SIOOBE_FORMATTER" "Ljava/util/function/BiFunction;" .null (fun q => B.1 ≤ q) U U.heap ∨ va_Z "jdk/internal/util/Preconditions" "SIOOBE_FORMATTER" "Ljava/util/function/BiFunction;" (.ref (zw_ad B 1013)) (fun q => B.1 ≤ q) U U.heap)) ∧
  va_X (zw_ad B 1012) X.1 X.2 U U.heap ∧ zw_ad B 1012 < U.heap.size ∧ ¬ B.1 ≤ zw_ad B 1012
def zw_Amb (X : zw_X) (B : zw_B) (D : va_G) (ca : Nat → ClassId) (U : State) : Prop := va_K D zw_cl (zw_tys ca) U ∧ zw_TK U ∧ zw_CK X B U
theorem zw_good {w : Cond} (h : w ∈ zw_TG) : (w.onTables && w.keeps) = true ∨ ∃ ty, w = .arrayClass ty := good_of_word (List.mem_filter.mp h).2
theorem zw_TN_kind : ∀ w ∈ zw_TN, (∃ a i b n d h, w = .fieldLinkNest a i b n d h) ∨ ∃ a i x h, w = .methodLinkNest a i x h := by
  intro w hw
  unfold zw_TN at hw
  simp only [List.mem_cons, List.not_mem_nil, or_false] at hw
  rcases hw with rfl | rfl | rfl | rfl | rfl | rfl | rfl | rfl | rfl | rfl | rfl | rfl | rfl | rfl | rfl | rfl | rfl | rfl | rfl <;> first | exact Or.inl ⟨_, _, _, _, _, _, rfl⟩ | exact Or.inr ⟨_, _, _, _, rfl⟩
theorem zw_TK.moved {U U' : State} (hW : U.WarmedH U'.vm) (h : zw_TK U) : zw_TK U' := by
  refine ⟨fun w hw a => word_at hW (zw_good hw) (h.1 w hw a), fun w hw => ?_, h.2.2.1.moved hW.alike, h.2.2.2.1.moved hW.alike, h.2.2.2.2.moved hW.alike⟩
  rcases zw_TN_kind w hw with ⟨a, i, b, n, d, g, rfl⟩ | ⟨a, i, x, g, rfl⟩
  · exact va_Nw.warmF hW (h.2.1 _ hw)
  · exact va_Nw.warmM hW (h.2.1 _ hw)
theorem zw_CK.moved {X : zw_X} {B : zw_B} {U U' : State} (hW : U.WarmedH U'.vm) (hz : U.heap.size ≤ U'.heap.size) (hq : ∀ q : Nat, q < U.heap.size → ¬ B.1 ≤ q → U'.heap[q]? = U.heap[q]?) (h : zw_CK X B U) : zw_CK X B U' := by
  obtain ⟨h1, h2, h3, h4, h5, h6, h7⟩ := h
  have ha := hW.alike
  exact ⟨fun i hi => ⟨((h1 i hi).1.kept hq).moved ha, ((h1 i hi).2.kept hq).moved ha⟩, (h2.kept hq).moved ha, fun i hi => (h3 i hi).warm hW, ⟨(h4.1.kept hq).moved ha, h4.2.imp (fun q => (q.kept hq).moved ha) (fun q => (q.kept hq).moved ha)⟩, (h5.kept (hq _ h6 h7)).moved ha, Nat.lt_of_lt_of_le h6 hz, h7⟩
theorem zw_Amb.moved {X : zw_X} {B : zw_B} {D : va_G} {ca : Nat → ClassId} {U U' : State} (hW : U.WarmedH U'.vm) (hz : U.heap.size ≤ U'.heap.size) (hq : ∀ q : Nat, q < U.heap.size → ¬ B.1 ≤ q → U'.heap[q]? = U.heap[q]?) (h : zw_Amb X B D ca U) : zw_Amb X B D ca U' := ⟨h.1.moved hW.alike, h.2.1.moved hW, h.2.2.moved hW hz hq⟩
/-! ===== a method: name, bytes, locals, answer's type ===== -/
abbrev zw_M : Type := MethodName × ByteArray × Nat × Option FieldType
def zw_rm (d mc ms : Nat) : Room := { frames := d, cells := mc, slots := ms, locals := 64 * d }
def zw_Fix (M : zw_M) (p : Program) (s : State) (m : MethodId) (meth : Method) (c : Code) : Prop := p.tables.exec = Jvm.exec ∧ c.code = M.2.1 ∧ c.maxLocals = M.2.2.1 ∧ s.vm.findClass M.1.cls = some m.cls ∧ meth.sig.returnType = M.2.2.2 ∧ meth.locks = false ∧ (M.1.name = "<init>" → meth.name = "<init>")
/-- the method stands with locals ls over the heap H that holds S; it began with n0 cells, there are n now -/
def zw_At (X : zw_X) (M : zw_M) (B : zw_B) (D : va_G) (ca : Nat → ClassId) (p : Program) (s : State) (m : MethodId) (meth : Method) (c : Code) (H : Heap) (locs : List Loc) (ls : Array Slot) (n0 n : Nat) (L : List Value) (S : aS) : Prop :=
  zw_Fix M p s m meth c ∧ zw_Amb X B D ca s ∧ s.heap.size = B.1 + n0 ∧ (n0 ≤ n ∧ n < 1000) ∧ va_P D zw_cl (zw_wl B ca n S) H ∧ va_S (fun q => B.1 ≤ q) s.heap H locs ∧ zw_L B ls M.2.2.1 L
def zw_QC (X : zw_X) (B : zw_B) (D : va_G) (ca : Nat → ClassId) (n : Nat) (R : Option Value → aS → Prop) : Array Value → State → Outcome → State → Prop := fun _ st oc t =>
  (∃ (r : Option Value) (S : aS), oc = .returned (r.map (zw_cv B)) ∧ R r S ∧ va_P D zw_cl (zw_wl B ca n S) t.heap) ∧ va_F (fun q => B.1 ≤ q) st t
def zw_V (X : zw_X) (M : zw_M) (d mc ms n0 : Nat) (R : Option Value → aS → Prop) (pc k ss : Nat) (L st : List Value) (S : aS) : Prop :=
  ∀ (l : Launch) (p : Program) (e : Env) (s : State) (m : MethodId) (args : Array Value) (below : List Frame) (meth : Method) (c : Code) (H : Heap) (locs : List Loc) (B : zw_B) (D : va_G) (ca : Nat → ClassId) (ls : Array Slot),
    zw_At X M B D ca p s m meth c H locs ls n0 (n0 + k) L S → W p l e (zw_rm d mc ms) s m args below meth c H locs k ss (MQ below (zw_QC X B D ca (n0 + mc) R) args s mc ms (fun q => B.1 ≤ q)) (F0 m pc ls (st.map (zw_cv B)))
theorem zw_sz {p : Program} {l : Launch} {e : Env} {R : Room} {s : State} {m : MethodId} {args : Array Value} {below : List Frame} {meth : Method} {c : Code} {H : Heap} {locs : List Loc} {cells slots : Nat} {Q : State → Prop} {g : JFrame} (h : H.size ≤ s.heap.size + cells → W p l e R s m args below meth c H locs cells slots Q g) : W p l e R s m args below meth c H locs cells slots Q g := by
  intro T hT X
  have h1 := X.heapSize
  rw [hT] at h1
  exact h h1 T hT X
theorem zw_lo {D : va_G} {B : zw_B} {ca : Nat → ClassId} {s : State} {n0 n : Nat} {S : aS} {H : Heap} (hs : s.heap.size = B.1 + n0) (hn : n0 ≤ n ∧ n < 1000) (hP : va_P D zw_cl (zw_wl B ca n S) H) (hz : s.heap.size ≤ H.size) : B.1 + n ≤ H.size := by
  by_cases h : n = n0
  · subst h; omega
  · have h1 := (hP (n - 1) _ (zw_wl_get B ca S (o := n) (n := n) (by omega) (by omega))).lt
    dsimp only at h1
    rw [zw_ad_lt hn.2] at h1
    omega
