section
variable {X : zw_X} {M : zw_M} {d mc ms n0 : Nat} {R : Option Value → aS → Prop} {pc k ss : Nat} {L st : List Value} {S : aS}
theorem zw_room {d d2 a mc ms mc2 ms2 : Nat} (h : d2 < d) (ha : a ≤ 45) : (zw_rm d2 mc2 ms2).frames + 1 ≤ (zw_rm d mc ms).frames ∧ 8 + (a + 11) + (zw_rm d2 mc2 ms2).locals ≤ (zw_rm d mc ms).locals := by
  constructor
  · show d2 + 1 ≤ d
    omega
  · show 8 + (a + 11) + 64 * d2 ≤ 64 * d
    omega
theorem zw_pre {p : Program} {s : State} {m : MethodId} {meth : Method} {c : Code} {H : Heap} {locs : List Loc} {B : zw_B} {D : va_G} {ca : Nat → ClassId} {ls : Array Slot} {As : List Value} (hA : zw_At X M B D ca p s m meth c H locs ls n0 (n0 + k) L S) (hz : H.size ≤ s.heap.size + k) : ∀ U : State, U.heap = H → s.WarmedH U.vm → zw_Pc X B D ca (n0 + k) S As (As.map (zw_cv B)).toArray U := by
  intro U hU hW
  have h1 := hA.2.2.2.2.2.1
  have h2 := zw_lo hA.2.2.1 hA.2.2.2.1 hA.2.2.2.2.1 h1.1
  refine ⟨rfl, hA.2.1.moved hW (by rw [hU]; exact h1.1) (fun q q1 q2 => by rw [hU]; exact h1.2.1 q q1 q2), ?_, hA.2.2.2.1.2, by rw [hU]; exact hA.2.2.2.2.1⟩
  rw [hU]
  have := hA.2.2.1
  omega
theorem zw_fix {p : Program} {s : State} {m : MethodId} {meth : Method} {c : Code} {H : Heap} {locs : List Loc} {B : zw_B} {D : va_G} {ca : Nat → ClassId} {ls : Array Slot} {n : Nat} (args : Array Value) (hA : zw_At X M B D ca p s m meth c H locs ls n0 n L S) : CallFix p m c M.2.1 M.2.2.1 s args zw_TG M.1.cls := ⟨hA.1.1, hA.1.2.1, hA.1.2.2.1, hA.1.2.2.2.1, zw_hts hA.2.1 args⟩
theorem zv_callS {As : List Value} {i : Nat} {M2 : zw_M} {np d2 mc2 ms2 : Nat} {R2 : Option Value → aS → Prop} (hd : decode M.2.1 pc = .ok (.invokestatic i, 3)) (hw : Cond.methodLink M.1.cls i M2.1 ∈ zw_TG) (hce : zw_CeS M2 np) (hlen : (zw_fl As).length ≤ M2.2.2.1) (hnp : As.length = np) (hst : (st.map fun v => v.category).sum ≤ 8) (hdd : d2 < d) (hmc : k + mc2 ≤ mc ∧ ss + ms2 ≤ ms) (hn : n0 + k + mc2 < 1000)
    (hC : zw_C X M2 d2 mc2 ms2 (n0 + k) As S R2) (hk : ∀ r S', R2 r S' → zw_V X M d mc ms n0 R (pc + 3) (k + mc2) (ss + ms2) L (r.toList ++ st) S') : zw_V X M d mc ms n0 R pc k ss L (As.reverse ++ st) S := by
  intro l p e s m args below meth c H locs B D ca ls hA
  obtain ⟨⟨hy, hcode, hini, hml, hpl⟩, hstat⟩ := hce
  have hts := zw_hts hA.2.1 args
  refine zw_sz fun hz => ?_
  have e1 : (As.reverse ++ st).map (zw_cv B) = (As.map (zw_cv B)).reverse ++ st.map (zw_cv B) := by rw [List.map_append, List.map_reverse]
  rw [e1]
  exact zw_go hA (va_runS (As := As.map (zw_cv B)) (zw_fix args hA) (zw_met B D ca hC hpl hlen) ⟨callB_of np hts (zw_goodin hcode) rfl rfl rfl (hts _ hini) (hts _ hw) hy (zw_room hdd hml), hts _ hstat⟩ ⟨zw_blind, zw_pre hA hz⟩ rfl (by rw [List.length_map]; exact hnp) hA.2.2.2.2.2.2.1 rfl (lv_room (by rw [zw_cats]; exact hst)) hd hmc) hn hk
theorem zv_callSN {As : List Value} {i : Nat} {M2 : zw_M} {np d2 mc2 ms2 : Nat} {R2 : Option Value → aS → Prop} (hd : decode M.2.1 pc = .ok (.invokestatic i, 3)) (hw : Cond.methodLinkNest M.1.cls i M2.1 "CutStones" ∈ zw_TN) (hce : zw_CeS M2 np) (hlen : (zw_fl As).length ≤ M2.2.2.1) (hnp : As.length = np) (hst : (st.map fun v => v.category).sum ≤ 8) (hdd : d2 < d) (hmc : k + mc2 ≤ mc ∧ ss + ms2 ≤ ms) (hn : n0 + k + mc2 < 1000)
    (hC : zw_C X M2 d2 mc2 ms2 (n0 + k) As S R2) (hk : ∀ r S', R2 r S' → zw_V X M d mc ms n0 R (pc + 3) (k + mc2) (ss + ms2) L (r.toList ++ st) S') : zw_V X M d mc ms n0 R pc k ss L (As.reverse ++ st) S := by
  intro l p e s m args below meth c H locs B D ca ls hA
  obtain ⟨⟨hy, hcode, hini, hml, hpl⟩, hstat⟩ := hce
  have hts := zw_hts hA.2.1 args
  refine zw_sz fun hz => ?_
  have e1 : (As.reverse ++ st).map (zw_cv B) = (As.map (zw_cv B)).reverse ++ st.map (zw_cv B) := by rw [List.map_append, List.map_reverse]
  rw [e1]
  exact zw_go hA (va_runSN (As := As.map (zw_cv B)) (zw_fix args hA) (zw_met B D ca hC hpl hlen) ⟨va_cnB np hts (zw_goodin hcode) rfl rfl rfl (hA.2.1.2.1.2.1 _ hw) (hts _ hini) hy (zw_room hdd hml), hts _ hstat, trivial⟩ ⟨zw_blind, zw_pre hA hz⟩ rfl (by rw [List.length_map]; exact hnp) hA.2.2.2.2.2.2.1 rfl (lv_room (by rw [zw_cats]; exact hst)) hd hmc) hn hk
/-- the one that is called stands in its cell: an object of the world, or a text -/
def zw_Rv (n o : Nat) (C : String) : Prop := (∃ (c : Nat) (r : vw_C), 1 ≤ o ∧ o ≤ n ∧ (zw_SH o).1 = c ∧ zw_cl[c]? = some r ∧ r.1 = C) ∨ (C = "java/lang/String" ∧ ∃ a, a < 3 ∧ o = 1006 + a)
theorem zw_recv {p : Program} {s : State} {m : MethodId} {meth : Method} {c : Code} {H : Heap} {locs : List Loc} {B : zw_B} {D : va_G} {ca : Nat → ClassId} {ls : Array Slot} {n o : Nat} {C : String} (hA : zw_At X M B D ca p s m meth c H locs ls n0 n L S) (h : zw_Rv n o C) : ∃ cellB : Cell, H[zw_ad B o]? = some cellB ∧ cellB.vm.isStatics = false ∧ s.vm.findClass C = some cellB.cls := by
  rcases h with ⟨c, r, h1, h2, h3, h4, h5⟩ | ⟨rfl, a, ha, rfl⟩
  · have hc := (zw_Cls h4).1
    have he := zw_wl_a (B := B) (ca := ca) (S := S) ⟨h1, h2⟩ (zw_cel_o B ca S (c := c) (N := (zw_SH o).2) (by rw [← h3]) hc)
    have := va_recv hA.2.1.1 hA.2.2.2.2.1 h4 he
    rw [h5] at this
    exact this
  · exact vk_recv (adK := fun i => zw_ad B (1006 + i)) (i := a) (hA.2.1.2.2.2.1) ha hA.2.2.2.2.2.1
theorem zv_callV {As : List Value} {i o : Nat} {M2 : zw_M} {np d2 mc2 ms2 : Nat} {R2 : Option Value → aS → Prop} (hd : decode M.2.1 pc = .ok (.invokevirtual i, 3)) (hw : Cond.methodLink M.1.cls i M2.1 ∈ zw_TG) (hce : zw_CeV M2 np) (ho : zw_Rv (n0 + k) o M2.1.cls) (hlen : (zw_fl (.ref o :: As)).length ≤ M2.2.2.1) (hnp : As.length = np) (hst : (st.map fun v => v.category).sum ≤ 8) (hdd : d2 < d) (hmc : k + mc2 ≤ mc ∧ ss + ms2 ≤ ms) (hn : n0 + k + mc2 < 1000)
    (hC : zw_C X M2 d2 mc2 ms2 (n0 + k) (.ref o :: As) S R2) (hk : ∀ r S', R2 r S' → zw_V X M d mc ms n0 R (pc + 3) (k + mc2) (ss + ms2) L (r.toList ++ st) S') : zw_V X M d mc ms n0 R pc k ss L (As.reverse ++ .ref o :: st) S := by
  intro l p e s m args below meth c H locs B D ca ls hA
  obtain ⟨⟨hy, hcode, hini, hml, hpl⟩, hin, hse⟩ := hce
  have hts := zw_hts hA.2.1 args
  refine zw_sz fun hz => ?_
  have e1 : (As.reverse ++ .ref o :: st).map (zw_cv B) = (As.map (zw_cv B)).reverse ++ .ref (zw_ad B o) :: st.map (zw_cv B) := by rw [List.map_append, List.map_reverse]; rfl
  rw [e1]
  exact zw_go hA (va_runV (C := M2.1.cls) (As := As.map (zw_cv B)) (zw_fix args hA) (zw_met B D ca hC hpl hlen) ⟨callB_of np hts (zw_goodin hcode) rfl rfl rfl (hts _ hini) (hts _ hw) hy (zw_room hdd hml), hts _ hin, hts _ hse⟩ ⟨zw_blind, zw_recv hA ho, zw_pre (As := .ref o :: As) hA hz⟩ rfl (by rw [List.length_map]; exact hnp) hA.2.2.2.2.2.2.1 rfl (lv_room (by rw [zw_cats]; exact hst)) hd hmc) hn hk
theorem zv_callI {As : List Value} {i o : Nat} {M2 : zw_M} {np d2 mc2 ms2 : Nat} {R2 : Option Value → aS → Prop} (hd : decode M.2.1 pc = .ok (.invokespecial i, 3)) (hw : Cond.methodLink M.1.cls i M2.1 ∈ zw_TG) (hce : zw_CeI M2 np) (hlen : (zw_fl (.ref o :: As)).length ≤ M2.2.2.1) (hnp : As.length = np) (hst : (st.map fun v => v.category).sum ≤ 8) (hdd : d2 < d) (hmc : k + mc2 ≤ mc ∧ ss + ms2 ≤ ms) (hn : n0 + k + mc2 < 1000)
    (hC : zw_C X M2 d2 mc2 ms2 (n0 + k) (.ref o :: As) S R2) (hk : ∀ r S', R2 r S' → zw_V X M d mc ms n0 R (pc + 3) (k + mc2) (ss + ms2) L (r.toList ++ st) S') : zw_V X M d mc ms n0 R pc k ss L (As.reverse ++ .ref o :: st) S := by
  intro l p e s m args below meth c H locs B D ca ls hA
  obtain ⟨⟨hy, hcode, hini, hml, hpl⟩, hin, hnm, hret⟩ := hce
  have hts := zw_hts hA.2.1 args
  refine zw_sz fun hz => ?_
  have e1 : (As.reverse ++ .ref o :: st).map (zw_cv B) = (As.map (zw_cv B)).reverse ++ .ref (zw_ad B o) :: st.map (zw_cv B) := by rw [List.map_append, List.map_reverse]; rfl
  rw [e1]
  have hM := zw_met (l := l) B D ca hC hpl hlen
  rw [hret] at hM hcode
  exact zw_go hA (va_runI (As := As.map (zw_cv B)) (zw_fix args hA) hM ⟨callB_of np hts (zw_goodin hcode) rfl rfl rfl (hts _ hini) (hts _ hw) hy (zw_room hdd hml), hnm, hts _ hin⟩ ⟨zw_blind, zw_pre (As := .ref o :: As) hA hz⟩ rfl (by rw [List.length_map]; exact hnp) hA.2.2.2.2.2.2.1 rfl (lv_room (by rw [zw_cats]; exact hst)) hd hmc) hn hk
theorem zv_callIN {As : List Value} {i o : Nat} {M2 : zw_M} {np d2 mc2 ms2 : Nat} {R2 : Option Value → aS → Prop} (hd : decode M.2.1 pc = .ok (.invokespecial i, 3)) (hw : Cond.methodLinkNest M.1.cls i M2.1 "CutStones" ∈ zw_TN) (hce : zw_CeI M2 np) (hlen : (zw_fl (.ref o :: As)).length ≤ M2.2.2.1) (hnp : As.length = np) (hst : (st.map fun v => v.category).sum ≤ 8) (hdd : d2 < d) (hmc : k + mc2 ≤ mc ∧ ss + ms2 ≤ ms) (hn : n0 + k + mc2 < 1000)
    (hC : zw_C X M2 d2 mc2 ms2 (n0 + k) (.ref o :: As) S R2) (hk : ∀ r S', R2 r S' → zw_V X M d mc ms n0 R (pc + 3) (k + mc2) (ss + ms2) L (r.toList ++ st) S') : zw_V X M d mc ms n0 R pc k ss L (As.reverse ++ .ref o :: st) S := by
  intro l p e s m args below meth c H locs B D ca ls hA
  obtain ⟨⟨hy, hcode, hini, hml, hpl⟩, hin, hnm, hret⟩ := hce
  have hts := zw_hts hA.2.1 args
  refine zw_sz fun hz => ?_
  have e1 : (As.reverse ++ .ref o :: st).map (zw_cv B) = (As.map (zw_cv B)).reverse ++ .ref (zw_ad B o) :: st.map (zw_cv B) := by rw [List.map_append, List.map_reverse]; rfl
  rw [e1]
  have hM := zw_met (l := l) B D ca hC hpl hlen
  rw [hret] at hM hcode
  exact zw_go hA (va_runIN (As := As.map (zw_cv B)) (zw_fix args hA) hM ⟨va_cnB np hts (zw_goodin hcode) rfl rfl rfl (hA.2.1.2.1.2.1 _ hw) (hts _ hini) hy (zw_room hdd hml), hnm, hts _ hin⟩ ⟨zw_blind, zw_pre (As := .ref o :: As) hA hz⟩ rfl (by rw [List.length_map]; exact hnp) hA.2.2.2.2.2.2.1 rfl (lv_room (by rw [zw_cats]; exact hst)) hd hmc) hn hk
end
