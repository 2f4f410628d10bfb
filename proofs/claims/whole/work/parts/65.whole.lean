/-! THE CLAIM OUT OF ONE WALK OF THE LAW'S BODY. Your part is whole_start (and what it stands on); all else here is the same for every law, but numbers. -/
def lw_P (b : Addr) (xs : List Int32) (args : Array Value) (s : State) : Prop := args = #[.ref b] ∧ s.IntsAt b xs ∧ xs.length ≤ 4608 ∧ (Jvm.Cond.and given_1 narrow_1).before args s = true
def lw_Q (_ : Array Value) (s : State) (o : Outcome) (t : State) : Prop := o = .returned (some (.int 1)) ∧ Framed s o t [] 600000 7302250
def lw_Z (below : List Frame) (a : Array Value) (s : State) : State → Prop := fun t => ∃ o, t.status = .running ∧ Ended t below o ∧ lw_Q a s o t
/-- the law's own end, with 1 on the stack, nothing written that was there before, its room as the claim has it -/
theorem lw_ret {p : Program} {l : Launch} {e : Env} {s : State} {m : MethodId} {below : List Frame} {meth : Method} {c : Code} {b : Nat} (hx : p.tables.exec = Jvm.exec) (hb : c.code = code) (hr : meth.sig.returnType = ret) (hlocks : meth.locks = false) {pc : Nat} {H : Heap} {ls : Array Slot} (hdg : decode code pc = .ok (.ireturn, 1)) : W p l e room_1 s m #[Value.ref b] below meth c H [] 600000 7302250 (lw_Z below #[Value.ref b] s) (F0 m pc ls [.int 1]) := by
  intro T hT X
  obtain ⟨fs, hret, hrun, hended, hW, hframe⟩ := X.leave (v := some (.int 1)) (hlocks := hlocks) (fun h => by rw [hr] at h; cases h)
  have hmeth' : T.vm.method? m = some meth := X.method'
  refine ⟨T.setFrames fs, ?_, .returned (some (.int 1)), hrun, hended, rfl, ⟨_, rfl⟩, hW, hframe⟩
  jvm_step X.here [X.here.top, hx, hb, hdg, hmeth', hr, ret, narrow_b1]
  (try refine ⟨rfl, ?_⟩); (try refine ⟨rfl, ?_⟩)
  first | (intro acts; rw [hret _ acts rfl rfl rfl]) | rw [hret _ _ rfl rfl rfl]
  exact Steps.refl _
/-- what holds at the law's entry: the machine, the code, the tables' words (any of lw_tbl by 'hts w (by decide +kernel)'), the script of L ints xs at the cell b, what the Statement gives of the start (any of its parts by flat_of_before) -/
def lw_At (p : Program) (s : State) (m : MethodId) (meth : Method) (c : Code) (b L : Nat) (xs : Nat → Int32) : Prop :=
  p.tables.exec = Jvm.exec ∧ c.code = code ∧ meth.sig.returnType = ret ∧ c.maxLocals = 4 ∧ s.vm.findClass R_law = some m.cls ∧ (∀ w ∈ lw_tbl, w.before #[Value.ref b] s = true) ∧ va_X b L xs s s.heap ∧ b < s.heap.size ∧ meth.locks = false ∧ (Jvm.Cond.and given_1 narrow_1).before #[Value.ref b] s = true

/-- the law, from its entry, over a relation between the two systems that every call keeps -/
theorem whole_from (Rel : aS → Prop) (hE : zE_All Rel) (h0 : Rel zs_S1) {p : Program} {e : Env} {s : State} {m : MethodId} {below : List Frame} {meth : Method} {c : Code} (l : Launch) {b L : Nat} {xs : Nat → Int32} (hL : L ≤ 4608) (C0 : lw_At p s m meth c b L xs) : W p l e room_1 s m #[Value.ref b] below meth c s.heap [] 0 0 (lw_Z below #[Value.ref b] s) (entryFrame m ([Value.ref b] : List Value).toArray 4) := by
  obtain ⟨hx, hb, hr, hml, hown, hts, hX, hbl, hlocks, hgv⟩ := id C0
  have hfl := flat_of_before _ hgv
  have hAn : ∀ a : Nat, a < s.heap.size → ¬ (fun q : Nat => s.heap.size ≤ q) a := fun a ha h => by have : s.heap.size ≤ a := h; omega
  -- statics
  have hst : ∀ i : Nat, ∃ t : Nat, i < 6 → va_Z "CutStones" (zw_sn i) "[I" (.ref t) (fun q => s.heap.size ≤ q) s s.heap ∧ va_T .int t (zw_sl i).length (fun j => .int ((zw_sl i).getD j 0)) (fun q => s.heap.size ≤ q) s s.heap := by
    intro i
    by_cases hi : i < 6
    · have hln : (zw_sl i).length < 2 ^ 31 := by
        have : ∀ i, i < 6 → (zw_sl i).length < 100 := by decide +kernel
        have := this i hi
        omega
      obtain ⟨t, h1, h2⟩ := va_Tof (f := fun j => .int ((zw_sl i).getD j 0)) (A := fun q => s.heap.size ≤ q) hln (hfl _ (zs_arr i hi)) (va_eqt (hfl _ (zs_len i hi))) (fun j hj => va_eqt (hfl _ (zs_el i hi j hj))) hAn
      exact ⟨t, fun _ => ⟨va_Zref (hts _ (zs_lay i hi)) (hts _ zs_inC) h1 hAn, h2⟩⟩
    · exact ⟨0, fun h => absurd h hi⟩
  obtain ⟨ts, hts6⟩ := Classical.axiomOfChoice hst
  -- texts
  obtain ⟨adK, adV, hvk, hev⟩ := vk_Sof (args := #[Value.ref b]) (s := s) (N := 3) (tm := fun i => .string (zw_so i) (zw_si i)) (len := zw_len) (byt := zw_byt) (A := fun q => s.heap.size ≤ q)
    (fun i hi => by
      have : ∀ i, i < 3 → zw_len.getD i 0 < 200 := by decide +kernel
      have := this i hi
      omega) (fun i hi => hfl _ (zs_ex i hi)) (fun i hi => hfl _ (zs_co i hi)) (fun i hi => hfl _ (zs_ar i hi)) (fun i hi => hfl _ (zs_le i hi)) (fun i hi j hj => hfl _ (zs_be i hi j hj)) (fun i j hi hj hij => (zs_ne i hi j hj hij).imp (fun h => hfl _ h) (fun h => hfl _ h)) hAn
  obtain ⟨fm, hfm⟩ : ∃ fm : Nat, va_Z "jdk/internal/util/Preconditions" "SIOOBE_FORMATTER" "Ljava/util/function/BiFunction;" .null (fun q => s.heap.size ≤ q) s s.heap ∨ va_Z "jdk/internal/util/Preconditions" "SIOOBE_FORMATTER" "Ljava/util/function/BiFunction;" (.ref fm) (fun q => s.heap.size ≤ q) s s.heap := by
    have h : va_Zq "jdk/internal/util/Preconditions" "SIOOBE_FORMATTER" "Ljava/util/function/BiFunction;" (fun q => s.heap.size ≤ q) s s.heap := va_Zqof (hts _ zs_fm.2.1) (hts _ zs_fm.2.2) (hfl _ zs_fm.1) hAn
    rcases h with h | ⟨t, h⟩
    · exact ⟨0, Or.inl h⟩
    · exact ⟨t, Or.inr h⟩
  -- addresses
  obtain ⟨kd, hk0, hk1, hk2, hk3, hk4⟩ : ∃ kd : Nat → Nat, (∀ i, i < 6 → kd (1000 + i) = ts i) ∧ (∀ i, i < 3 → kd (1006 + i) = adK i) ∧ (∀ i, i < 3 → kd (1009 + i) = adV i) ∧ kd 1012 = b ∧ kd 1013 = fm := by
    refine ⟨fun k => if k < 1006 then ts (k - 1000) else if k < 1009 then adK (k - 1006) else if k < 1012 then adV (k - 1009) else if k < 1013 then b else fm, fun i hi => ?_, fun i hi => ?_, fun i hi => ?_, rfl, rfl⟩
    · have h1 : 1000 + i < 1006 := by omega
      dsimp only
      rw [if_pos h1, show 1000 + i - 1000 = i by omega]
    · have h1 : ¬ 1006 + i < 1006 := by omega
      have h2 : 1006 + i < 1009 := by omega
      dsimp only
      rw [if_neg h1, if_pos h2, show 1006 + i - 1006 = i by omega]
    · have h1 : ¬ 1009 + i < 1006 := by omega
      have h2 : ¬ 1009 + i < 1009 := by omega
      have h3 : 1009 + i < 1012 := by omega
      dsimp only
      rw [if_neg h1, if_neg h2, if_pos h3, show 1009 + i - 1009 = i by omega]
  have adk : ∀ k, ¬ k < 1000 → zw_ad (s.heap.size, kd) k = kd k := fun k hk => by simp [zw_ad, hk]
  -- classes
  have hcl : ∀ c : Nat, ∃ q : ClassId × (Nat → Nat), ∀ r, zw_cl[c]? = some r → u_Kn s r.1 r.2.1 r.2.2 q.1 q.2 := by
    intro c
    cases hr : zw_cl[c]? with
    | none => exact ⟨(0, fun _ => 0), fun r h => by cases h⟩
    | some r =>
      have hC := zw_Cls hr
      obtain ⟨cC, iS, hKn⟩ := u_known (C := r.1) (T := r.2.1) (N := r.2.2) (n := r.2.2) hts (fun w hw => (List.mem_filter.mp (hC.2.2.2.1 w hw)).1) (hts _ (zs_in c hC.1 r hr))
      exact ⟨(cC, iS), fun r2 h2 => by cases h2; exact hKn⟩
  obtain ⟨dq, hdq⟩ := Classical.axiomOfChoice hcl
  have hTG : ∀ w ∈ zw_TG, ∀ a : Array Value, w.before a s = true := by
    intro w hw a
    have h1 := hts w (List.mem_filter.mp hw).1
    exact word_at (State.WarmedH.refl s) (zw_good hw) h1
  have hov := fun C (h : Cond.arrayOver (.object C) ∈ lw_tbl) => va_AO.of (hts _ h)
  obtain ⟨c12, h12⟩ := zs_arrK (hts (.arrayClass .byte) (List.mem_filter.mp zw_ac.1).1) (fun C h => by cases h)
  obtain ⟨c13, h13⟩ := zs_arrK (hts (.arrayClass .int) (List.mem_filter.mp zw_ac.2.1).1) (fun C h => by cases h)
  obtain ⟨c14, h14⟩ := zs_arrK (hts (.arrayClass .long) (List.mem_filter.mp zw_ac.2.2.1).1) (fun C h => by cases h)
  obtain ⟨c15, h15⟩ := zs_arrK (hts (.arrayClass .boolean) (List.mem_filter.mp zw_ac.2.2.2).1) (fun C h => by cases h)
  obtain ⟨c16, h16⟩ := zs_arrO (hov _ zs_ov.1)
  obtain ⟨c17, h17⟩ := zs_arrO (hov _ zs_ov.2.1)
  obtain ⟨c18, h18⟩ := zs_arrO (hov _ zs_ov.2.2)
  obtain ⟨ca, hca⟩ : ∃ ca : Nat → ClassId, ∀ (k : Nat) (q : ClassId × FieldType), (zw_tys ca)[k]? = some q → ArrOfT s q.1 q.2 ∧ va_RA s q.1 q.2 := by
    refine ⟨fun k => if k = 12 then c12 else if k = 13 then c13 else if k = 14 then c14 else if k = 15 then c15 else if k = 16 then c16 else if k = 17 then c17 else c18, fun k q hq => ?_⟩
    match k, hq with
    | 0, hq => cases hq; exact h12
    | 1, hq => cases hq; exact h13
    | 2, hq => cases hq; exact h14
    | 3, hq => cases hq; exact h15
    | 4, hq => cases hq; exact h16
    | 5, hq => cases hq; exact h17
    | 6, hq => cases hq; exact h18
    | k + 7, hq => simp [zw_tys] at hq
  have hAmb : zw_Amb (L, xs) (s.heap.size, kd) (fun k => (dq k).1, fun k => (dq k).2) ca s := by
    refine ⟨⟨fun c q hq => hdq c q hq, hca⟩, ⟨hTG, fun w hw => ?_, hov _ zs_ov.1, hov _ zs_ov.2.1, hov _ zs_ov.2.2⟩, ⟨fun i hi => ?_, ?_, fun i hi => ?_, ?_, ?_, ?_, ?_⟩⟩
    · have h1 := hts w (zw_TN_in w hw)
      rcases zw_TN_kind w hw with ⟨_, _, _, _, _, _, rfl⟩ | ⟨_, _, _, _, rfl⟩
      · exact va_Nw.of rfl h1
      · exact va_Nw.of rfl h1
    · rw [adk _ (by omega), hk0 i hi]; exact hts6 i hi
    · refine ⟨fun i hi => ?_, fun i j hi hj h => ?_⟩
      · dsimp only
        rw [show zw_ad (s.heap.size, kd) (1006 + i) = adK i from (adk _ (by omega)).trans (hk1 i hi), show zw_ad (s.heap.size, kd) (1009 + i) = adV i from (adk _ (by omega)).trans (hk2 i hi)]
        exact hvk.1 i hi
      · dsimp only at h
        rw [show zw_ad (s.heap.size, kd) (1006 + i) = adK i from (adk _ (by omega)).trans (hk1 i hi), show zw_ad (s.heap.size, kd) (1006 + j) = adK j from (adk _ (by omega)).trans (hk1 j hj)] at h
        exact hvk.2 i j hi hj h
    · rw [show zw_ad (s.heap.size, kd) (1006 + i) = adK i from (adk _ (by omega)).trans (hk1 i hi)]
      have h1 : vk_R (zw_so i) (zw_si i) (zw_stx i) (adK i) s := by
        have h2 := hts _ (zs_sr i hi)
        have h3 := hev i hi
        refine ⟨?_, ?_⟩
        · first
            | exact va_tabs rfl rfl h2
            | (simp only [Cond.before, Cond.holds, Cond.value] at h2 ⊢; exact h2)
        · rw [Term.string_eval_of_vm (args := #[]) (rfl : s.vm = s.vm)]
          exact h3
      exact h1
    · exact ⟨va_Zof (hts _ zs_cs.2.1) (hts _ zs_cs.2.2) (va_eqi (hfl _ zs_cs.1)) hAn, by rw [adk 1013 (by omega), hk4]; exact hfm⟩
    · rw [adk _ (by omega), hk3]; exact hX
    · rw [adk _ (by omega), hk3]; exact hbl
    · rw [adk _ (by omega), hk3]; exact Nat.not_le.mpr hbl
  have hl := lv_entry ([.ref b]) (n := 4) (Nat.le_of_ble_eq_true rfl)
  rw [lg_entry_eq]
  have hV := zs_law (X := (L, xs)) (P := fun r _ => r = some (.int 1)) hE h0 hL (fun _ => rfl)
  have hW := hV l p e s m #[Value.ref b] below meth c s.heap [] (s.heap.size, kd) (fun k => (dq k).1, fun k => (dq k).2) ca _ ⟨⟨hx, hb, hml, hown, hr, hlocks, fun h => absurd h (by decide)⟩, hAmb, rfl, ⟨Nat.le_refl _, by decide⟩, fun k q h => by simp [zw_wl] at h, va_S.rf, ⟨hl.1, hl.2.1, fun i v hi hv => ?_⟩⟩
  · refine zs_room (by decide) (by decide) (by decide) (by decide) (fun t ht => ?_) hW
    obtain ⟨o, h1, h2, ⟨⟨r, S, h3, h4, h5⟩, h6⟩, L2, h7, h8⟩ := ht
    subst h4
    obtain ⟨g1, g2, g3⟩ := h7
    refine ⟨o, h1, h2, h3, g1, g2, ?_⟩
    exact g3.weaken (fun y hy hlt => absurd hlt (Nat.not_lt.mpr (h8 y hy))) (by decide) (by decide)
  · match i, hi with
    | 0, hi =>
      cases hi
      have h1 := hl.2.2 (0, .ref b) (by simp [lv_args])
      show _ = some (Slot.val (.ref (zw_ad (s.heap.size, kd) 1012)))
      rw [adk _ (by omega), hk3]
      exact h1
    | 1, hi => cases hi; exact absurd rfl hv
    | 2, hi => cases hi; exact absurd rfl hv
    | 3, hi => cases hi; exact absurd rfl hv
    | i + 4, hi => simp at hi
