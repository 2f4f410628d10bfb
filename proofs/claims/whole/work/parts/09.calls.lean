/-! ===== ends, contracts, calls, new cells ===== -/
section
variable {X : zw_X} {M : zw_M} {d mc ms n0 : Nat} {R : Option Value → aS → Prop} {pc k ss : Nat} {L st : List Value} {S : aS}
theorem zw_fin {p : Program} {s : State} {m : MethodId} {meth : Method} {c : Code} {H : Heap} {locs : List Loc} {B : zw_B} {D : va_G} {ca : Nat → ClassId} {ls : Array Slot} {args : Array Value} {r : Option Value} (hA : zw_At X M B D ca p s m meth c H locs ls n0 (n0 + k) L S) (hk : k = mc) (hR : R r S) : ∀ t : State, t.heap = H → s.WarmedH t.vm → zw_QC X B D ca (n0 + mc) R args s (.returned (r.map (zw_cv B))) t := by
  subst hk
  intro t ht hW
  exact ⟨⟨r, S, rfl, hR, by rw [ht]; exact hA.2.2.2.2.1⟩, hA.2.2.2.2.2.1.F ht⟩
theorem zv_iret {v : Int32} {ty : FieldType} (hd : decode M.2.1 pc = .ok (.ireturn, 1)) (hr : M.2.2.2 = some ty) (hn : narrow ty (.int v) = .int v) (hk : k = mc) (hs : ss ≤ ms) (hR : R (some (.int v)) S) : zw_V X M d mc ms n0 R pc k ss L [.int v] S := by
  intro l p e s m args below meth c H locs B D ca ls hA
  have hf := zw_fin (args := args) hA hk hR
  subst hk
  exact W.widen (Nat.le_refl k) hs (W.zret (free := fun q => B.1 ≤ q) hA.1.1 hA.1.2.1 (hA.1.2.2.2.2.1.trans hr) hn hf hA.2.2.2.2.2.1.2.2 hd hA.1.2.2.2.2.2.1)
theorem zv_lret {v : Int64} (hd : decode M.2.1 pc = .ok (.lreturn, 1)) (hr : M.2.2.2 = some .long) (hk : k = mc) (hs : ss ≤ ms) (hR : R (some (.long v)) S) : zw_V X M d mc ms n0 R pc k ss L [.long v] S := by
  intro l p e s m args below meth c H locs B D ca ls hA
  have hf := zw_fin (args := args) hA hk hR
  subst hk
  exact W.widen (Nat.le_refl k) hs (W.lret (free := fun q => B.1 ≤ q) hA.1.1 hA.1.2.1 (hA.1.2.2.2.2.1.trans hr) hf hA.2.2.2.2.2.1.2.2 hd hA.1.2.2.2.2.2.1)
theorem zv_aret {v : Nat} {C : String} (hd : decode M.2.1 pc = .ok (.areturn, 1)) (hr : M.2.2.2 = some (.object C)) (hk : k = mc) (hs : ss ≤ ms) (hR : R (some (.ref v)) S) : zw_V X M d mc ms n0 R pc k ss L [.ref v] S := by
  intro l p e s m args below meth c H locs B D ca ls hA
  have hf := zw_fin (args := args) hA hk hR
  subst hk
  exact W.widen (Nat.le_refl k) hs (W.aret (free := fun q => B.1 ≤ q) hA.1.1 hA.1.2.1 (hA.1.2.2.2.2.1.trans hr) (Or.inl ⟨C, rfl⟩) (Or.inr ⟨_, rfl⟩) hf hA.2.2.2.2.2.1.2.2 hd hA.1.2.2.2.2.2.1)
theorem zv_vret (hd : decode M.2.1 pc = .ok (.return_, 1)) (hr : M.2.2.2 = none) (hk : k = mc) (hs : ss ≤ ms) (hR : R none S) : zw_V X M d mc ms n0 R pc k ss L [] S := by
  intro l p e s m args below meth c H locs B D ca ls hA
  have hf := zw_fin (args := args) hA hk hR
  subst hk
  exact W.widen (Nat.le_refl k) hs (W.vret (free := fun q => B.1 ≤ q) hA.1.1 hA.1.2.1 (hA.1.2.2.2.2.1.trans hr) hf hA.2.2.2.2.2.1.2.2 hd hA.1.2.2.2.2.2.1)
def zw_fl : List Value → List Value
  | [] => []
  | v :: vs => if v.category = 2 then v :: .null :: zw_fl vs else v :: zw_fl vs
def zw_l0 (nL : Nat) (vs : List Value) : List Value := zw_fl vs ++ List.replicate (nL - (zw_fl vs).length) .null
/-- the method from its entry -/
def zw_C (X : zw_X) (M : zw_M) (d mc ms n : Nat) (args : List Value) (S : aS) (R : Option Value → aS → Prop) : Prop := zw_V X M d mc ms n R 0 0 0 (zw_l0 M.2.2.1 args) [] S
theorem zw_fl_len (B : zw_B) : ∀ vs : List Value, (lg_sl (vs.map (zw_cv B))).length = (zw_fl vs).length
  | [] => rfl
  | v :: vs => by
    have ih := zw_fl_len B vs
    unfold lg_sl at ih ⊢
    rw [List.map_cons, List.flatMap_cons, List.length_append, ih, zw_cv_cat]
    show _ = (if v.category = 2 then v :: .null :: zw_fl vs else v :: zw_fl vs).length
    split
    · simp only [List.length_cons, List.length_nil]; omega
    · simp only [List.length_cons, List.length_nil]; omega
theorem zw_fl_at (B : zw_B) : ∀ (vs : List Value) (off i : Nat) (v : Value), (zw_fl vs)[i]? = some v → v ≠ .null → (off + i, zw_cv B v) ∈ lv_args off (vs.map (zw_cv B))
  | [], off, i, v, h, _ => by simp [zw_fl] at h
  | w :: vs, off, i, v, h, hv => by
    rw [List.map_cons]
    unfold lv_args
    rw [zw_cv_cat]
    unfold zw_fl at h
    split at h
    · rename_i hc
      rw [if_pos hc]
      match i, h with
      | 0, h => cases h; exact List.mem_cons_self
      | 1, h => cases h; exact absurd rfl hv
      | j + 2, h =>
        have := zw_fl_at B vs (off + 2) j v h hv
        rw [show off + 2 + j = off + (j + 2) by omega] at this
        exact List.mem_cons_of_mem _ this
    · rename_i hc
      rw [if_neg hc]
      match i, h with
      | 0, h => cases h; exact List.mem_cons_self
      | j + 1, h =>
        have := zw_fl_at B vs (off + 1) j v h hv
        rw [show off + 1 + j = off + (j + 1) by omega] at this
        exact List.mem_cons_of_mem _ this
theorem zw_l0_at {nL : Nat} {vs : List Value} {i : Nat} {v : Value} (h : (zw_l0 nL vs)[i]? = some v) (hv : v ≠ .null) : (zw_fl vs)[i]? = some v := by
  unfold zw_l0 at h
  by_cases hi : i < (zw_fl vs).length
  · rw [List.getElem?_append_left hi] at h; exact h
  · rw [List.getElem?_append_right (by omega)] at h
    have := List.mem_of_getElem? h
    exact absurd (List.eq_of_mem_replicate this) hv
def zw_Pc (X : zw_X) (B : zw_B) (D : va_G) (ca : Nat → ClassId) (n : Nat) (S : aS) (args : List Value) : Array Value → State → Prop := va_Pc (args.map (zw_cv B)) (fun U => zw_Amb X B D ca U ∧ U.heap.size = B.1 + n ∧ n < 1000 ∧ va_P D zw_cl (zw_wl B ca n S) U.heap)
theorem zw_met {l : Launch} {args : List Value} {n : Nat} (B : zw_B) (D : va_G) (ca : Nat → ClassId) (h : zw_C X M d mc ms n args S R) (hy : plainName M.1.cls = true) (hlen : (zw_fl args).length ≤ M.2.2.1) :
    Met l M.1 [Cond.code M.1 M.2.1 M.2.2.1 M.2.2.2] (zw_rm d mc ms) (zw_Pc X B D ca n S args) (zw_QC X B D ca (n + mc) R) mc ms (fun q => B.1 ≤ q) := by
  refine Met.ofW (cc := M.2.1) (maxL := M.2.2.1) (ret := M.2.2.2) hy rfl ?_
  intro p e s m args2 below meth c s₁ B0 hml hv
  obtain ⟨rfl, hAm, hsz, hn, hP⟩ := hv
  have hl := lv_entry (args.map (zw_cv B)) (n := M.2.2.1) (by rw [zw_fl_len]; exact hlen)
  rw [lg_entry_eq]
  refine h l p e s m _ below meth c s.heap [] B D ca _ ⟨⟨B0.exec, B0.bytes, hml, findClass_of_methodNamed B0.named, B0.returns, B0.notSynchronized, fun hq => ((name_of_methodNamed B0.named B0.method).1).trans hq⟩, hAm, hsz, ⟨Nat.le_refl _, hn⟩, hP, va_S.rf, ⟨hl.1, hl.2.1, fun i v hi hv => ?_⟩⟩
  have h1 := zw_fl_at B args 0 i v (zw_l0_at hi hv) hv
  rw [Nat.zero_add] at h1
  exact hl.2.2 _ h1
/-- what a call asks of the method that is called -/
def zw_Ce (M2 : zw_M) (np : Nat) : Prop := (M2.1.cls ≠ "java/lang/invoke/MethodHandle" ∧ M2.1.cls ≠ "java/lang/invoke/VarHandle" ∧ (parseMethodDescriptor M2.1.desc).map (fun d => d.parameters.length) = some np) ∧ Cond.code M2.1 M2.2.1 M2.2.2.1 M2.2.2.2 ∈ zw_TG ∧ Cond.initialized M2.1.cls ∈ zw_TG ∧ M2.2.2.1 ≤ 45 ∧ plainName M2.1.cls = true
def zw_CeV (M2 : zw_M) (np : Nat) : Prop := zw_Ce M2 np ∧ Cond.instanceMethod M2.1 ∈ zw_TG ∧ Cond.selects M2.1.cls M2.1 M2.1 ∈ zw_TG
def zw_CeS (M2 : zw_M) (np : Nat) : Prop := zw_Ce M2 np ∧ Cond.static M2.1 ∈ zw_TG
def zw_CeI (M2 : zw_M) (np : Nat) : Prop := zw_Ce M2 np ∧ Cond.instanceMethod M2.1 ∈ zw_TG ∧ M2.1.name = "<init>" ∧ M2.2.2.2 = none
theorem zw_blind {B : zw_B} {D : va_G} {ca : Nat → ClassId} {n : Nat} {args : List Value} : FrameBlind (zw_Pc X B D ca n S args) := by
  intro a U g mk h
  obtain ⟨h1, h2, h3, h4, h5⟩ := h
  exact ⟨h1, h2.moved (U' := U.calling g mk a) (State.WarmedH.refl U) (Nat.le_refl _) (fun _ _ _ => rfl), h3, h4, h5⟩
theorem zw_goodin {w : Cond} (h : w ∈ zw_TG) : GoodIn zw_TG [w] := fun x hx => by
  rw [List.mem_singleton] at hx
  subst hx
  exact ⟨h, zw_good h⟩
theorem zw_go {p : Program} {l : Launch} {e : Env} {s : State} {m : MethodId} {args : Array Value} {below : List Frame} {meth : Method} {c : Code} {H : Heap} {locs : List Loc} {B : zw_B} {D : va_G} {ca : Nat → ClassId} {ls : Array Slot} {mc2 ms2 : Nat} {R2 : Option Value → aS → Prop} {st0 : List Value} {a2 : Array Value}
    (hA : zw_At X M B D ca p s m meth c H locs ls n0 (n0 + k) L S)
    (hr : va_Run p l e (zw_rm d mc ms) s m args below meth c H locs k ss mc2 ms2 (F0 m pc ls st0) (st.map (zw_cv B)) (zw_QC X B D ca (n0 + k + mc2) R2 a2) (fun q => B.1 ≤ q)) (hn : n0 + k + mc2 < 1000)
    (hk : ∀ r S', R2 r S' → zw_V X M d mc ms n0 R (pc + 3) (k + mc2) (ss + ms2) L (r.toList ++ st) S') : W p l e (zw_rm d mc ms) s m args below meth c H locs k ss (MQ below (zw_QC X B D ca (n0 + mc) R) args s mc ms (fun q => B.1 ≤ q)) (F0 m pc ls st0) := by
  intro T hT X0
  obtain ⟨v, st₀, t, T', L2, h0, X', hL, e1, e2, ⟨⟨r, S', hv, hR, hP⟩, hF⟩, stp⟩ := hr T hT X0
  have hv2 : v = r.map (zw_cv B) := Outcome.returned.inj hv
  subst hv2
  obtain ⟨hF1, hF2⟩ := hF
  rw [h0] at hF1 hF2
  have hS : va_S (fun q => B.1 ≤ q) s.heap T'.heap (locs ++ L2) := by
    have h1 := hA.2.2.2.2.2.1
    refine ⟨Nat.le_trans h1.1 (by rw [e1]; exact hF1), fun q q1 q2 => ?_, fun q hq => ?_⟩
    · rw [e1]
      rw [hF2 q (Nat.lt_of_lt_of_le q1 h1.1) q2]
      exact h1.2.1 q q1 q2
    · rcases List.mem_append.mp hq with h | h
      · exact h1.2.2 q h
      · exact hL q h
  have key := hk r S' hR l p e s m args below meth c T'.heap (locs ++ L2) B D ca ls ⟨hA.1, hA.2.1, hA.2.2.1, ⟨by omega, by omega⟩, by rw [e1, ← Nat.add_assoc]; exact hP, hS, hA.2.2.2.2.2.2⟩
  obtain ⟨t2, a1, b1⟩ := key T' rfl X'
  refine ⟨t2, stp t2 ?_, b1⟩
  have e3 : (Option.map (zw_cv B) r).toList ++ st.map (zw_cv B) = (r.toList ++ st).map (zw_cv B) := by cases r <;> rfl
  show Steps p.tables e below (T'.setTop (F0 m (pc + 3) ls ((Option.map (zw_cv B) r).toList ++ st.map (zw_cv B)))) t2
  rw [e3]
  exact a1
theorem zw_cats (B : zw_B) (st : List Value) : ((st.map (zw_cv B)).map fun v => v.category).sum = (st.map fun v => v.category).sum := by
  rw [List.map_map]
  congr 1
  apply List.map_congr_left
  intro v _
  exact zw_cv_cat B v
end
