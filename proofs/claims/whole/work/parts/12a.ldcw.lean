section
variable {X : zw_X} {M : zw_M} {d mc ms n0 : Nat} {R : Option Value → aS → Prop} {pc k ss : Nat} {L st : List Value} {S : aS}
/-- a text by ldc_w -/
theorem zw_ldcwS {p : Program} {l : Launch} {e : Env} {R : Room} {s : State} {m : MethodId} {args : Array Value} {below : List Frame} {meth : Method} {c : Code} {T : State} {locs : List Loc} {cells slots : Nat}
    (X : Stand p l e R s m args below meth c T locs cells slots) (hexec : p.tables.exec = Jvm.exec) {own text : String} {index : Nat} {a : Addr} (hown : s.vm.findClass own = some m.cls)
    (hconst : (Cond.stringRef own index text).before args s = true) (hev : (Term.string own index).eval args s none [] s = some (.ref a)) {g : JFrame} (hg : g.method = m) (hdg : decode c.code g.pc = .ok (.ldc_w index, 3)) :
    ∀ target, Steps p.tables e below (T.setTop { g with pc := g.pc + 3, stack := .ref a :: g.stack }) target → Steps p.tables e below (T.setTop g) target := by
  obtain ⟨k, cf, i, a', hk, hcf, hcp, -, hr, hev'⟩ := Cond.stringRef_spec hown hconst
  cases hev.symm.trans hev'
  obtain ⟨k', hk', he⟩ := X.warmed.alike.2.2 _ _ hk
  have hr' : k'.resolved[index]? = some (some (.string a)) := by
    rcases X.warmed.entry hk hk' index with h | ⟨h, -⟩
    · rw [h]; exact hr
    · rw [hr] at h; cases h
  intro target hrest
  subst hg
  jvm_step X.here [hexec, hdg, ldc_w.wp_string (e := e) (s := T) (f := g) X.here.top hk' (by rw [he]; exact hcf) hcp hr']
  exact hrest
theorem zv_ldcwS {i a : Nat} (hd : decode M.2.1 pc = .ok (.ldc_w i, 3)) (ha : a < 3) (h1 : zw_so a = M.1.cls) (h2 : zw_si a = i) (h : zw_V X M d mc ms n0 R (pc + 3) k ss L (.ref (1006 + a) :: st) S) : zw_V X M d mc ms n0 R pc k ss L st S := by
  intro l p e s m args below meth c H locs B D ca ls hA
  have q := hA.2.1.2.2.2.2.1 a ha
  rw [h1, h2] at q
  intro T hT X0
  obtain ⟨t, a1, b1⟩ := h l p e s m args below meth c H locs B D ca ls hA T hT X0
  exact ⟨t, zw_ldcwS X0 hA.1.1 hA.1.2.2.2.1 (text := zw_stx a) (a := zw_ad B (1006 + a)) q.1 q.2 (g := F0 m pc ls (st.map (zw_cv B))) rfl (by rw [hA.1.2.1]; exact hd) t a1, b1⟩
end
