/-! ===== arrays, statics, texts, the script ===== -/
section
variable {X : zw_X} {M : zw_M} {d mc ms n0 : Nat} {R : Option Value → aS → Prop} {pc k ss : Nat} {L st : List Value} {S : aS}
theorem zw_wl_a {B : zw_B} {ca : Nat → ClassId} {n o : Nat} {S : aS} {e : va_E} (ho : 1 ≤ o ∧ o ≤ n) (he : zw_cel B ca S o = e) : (zw_wl B ca n S)[o - 1]? = some (zw_ad B o, e) := (zw_wl_get B ca S ho.1 ho.2).trans (congrArg (fun e => some (zw_ad B o, e)) he)
theorem zv_iald {o : Nat} {i : Int32} (hd : decode M.2.1 pc = .ok (.iaload, 1)) (ho : 1 ≤ o ∧ o ≤ n0 + k) (hs : (zw_SH o).1 = 13) (hi : vp_in i (zw_SH o).2) (h : zw_V X M d mc ms n0 R (pc + 1) k ss L (.int (S.1 o i.toNatClampNeg) :: st) S) : zw_V X M d mc ms n0 R pc k ss L (.int i :: .ref o :: st) S := fun l p e s m args below meth c H locs B D ca ls hA =>
  va_iald (f := S.1 o) (n := (zw_SH o).2) hA.1.1 hA.1.2.1 hA.2.1.1 hA.2.2.2.2.1 (o - 1) 1 (zw_wl_a ho (zw_cel_i B ca S (c := 13) (by rw [← hs]) (by decide))) rfl hi hd (h l p e s m args below meth c H locs B D ca ls hA)
theorem zv_bald {o : Nat} {i : Int32} (hd : decode M.2.1 pc = .ok (.baload, 1)) (ho : 1 ≤ o ∧ o ≤ n0 + k) (hs : (zw_SH o).1 = 12) (hi : vp_in i (zw_SH o).2) (h : zw_V X M d mc ms n0 R (pc + 1) k ss L (.int (S.1 o i.toNatClampNeg) :: st) S) : zw_V X M d mc ms n0 R pc k ss L (.int i :: .ref o :: st) S := fun l p e s m args below meth c H locs B D ca ls hA =>
  va_bald (f := S.1 o) (n := (zw_SH o).2) hA.1.1 hA.1.2.1 hA.2.1.1 hA.2.2.2.2.1 (o - 1) 0 (zw_wl_a ho (zw_cel_i B ca S (c := 12) (by rw [← hs]) (by decide))) rfl hi hd (h l p e s m args below meth c H locs B D ca ls hA)
theorem zv_zald {o : Nat} {i : Int32} (hd : decode M.2.1 pc = .ok (.baload, 1)) (ho : 1 ≤ o ∧ o ≤ n0 + k) (hs : (zw_SH o).1 = 15) (hi : vp_in i (zw_SH o).2) (h : zw_V X M d mc ms n0 R (pc + 1) k ss L (.int (S.1 o i.toNatClampNeg) :: st) S) : zw_V X M d mc ms n0 R pc k ss L (.int i :: .ref o :: st) S := fun l p e s m args below meth c H locs B D ca ls hA =>
  va_zald (f := S.1 o) (n := (zw_SH o).2) hA.1.1 hA.1.2.1 hA.2.1.1 hA.2.2.2.2.1 (o - 1) 3 (zw_wl_a ho (zw_cel_i B ca S (c := 15) (by rw [← hs]) (by decide))) rfl hi hd (h l p e s m args below meth c H locs B D ca ls hA)
theorem zv_lald {o : Nat} {i : Int32} (hd : decode M.2.1 pc = .ok (.laload, 1)) (ho : 1 ≤ o ∧ o ≤ n0 + k) (hs : (zw_SH o).1 = 14) (hi : vp_in i (zw_SH o).2) (h : zw_V X M d mc ms n0 R (pc + 1) k ss L (.long (S.2.2 o i.toNatClampNeg) :: st) S) : zw_V X M d mc ms n0 R pc k ss L (.int i :: .ref o :: st) S := fun l p e s m args below meth c H locs B D ca ls hA =>
  va_lald (f := S.2.2 o) (n := (zw_SH o).2) hA.1.1 hA.1.2.1 hA.2.1.1 hA.2.2.2.2.1 (o - 1) 2 (zw_wl_a ho (zw_cel_l B ca S (by rw [← hs]))) rfl hi hd (h l p e s m args below meth c H locs B D ca ls hA)
/-- the classes of what arrays of references hold -/
def zw_ec (κ : Nat) : Nat := if κ = 16 then 0 else if κ = 17 then 5 else 7
theorem zv_aald {o κ : Nat} {i : Int32} (hd : decode M.2.1 pc = .ok (.aaload, 1)) (ho : 1 ≤ o ∧ o ≤ n0 + k) (hs : (zw_SH o).1 = κ) (hκ : κ = 16 ∨ κ = 17 ∨ κ = 18) (hi : vp_in i (zw_SH o).2) (hn : ¬ S.2.1 o i.toNatClampNeg = 0) (h : zw_V X M d mc ms n0 R (pc + 1) k ss L (.ref (S.2.1 o i.toNatClampNeg) :: st) S) : zw_V X M d mc ms n0 R pc k ss L (.int i :: .ref o :: st) S := by
  intro l p e s m args below meth c H locs B D ca ls hA
  have hk := h l p e s m args below meth c H locs B D ca ls hA
  have e1 : va_rf (zw_ro B (S.2.1 o i.toNatClampNeg)) = zw_cv B (.ref (S.2.1 o i.toNatClampNeg)) := by simp [zw_ro, hn, va_rf, zw_cv]
  have hk2 : W p l e (zw_rm d mc ms) s m args below meth c H locs k ss (MQ below (zw_QC X B D ca (n0 + mc) R) args s mc ms (fun q => B.1 ≤ q)) (F0 m (pc + 1) ls (va_rf (zw_ro B (S.2.1 o i.toNatClampNeg)) :: st.map (zw_cv B))) := by rw [e1]; exact hk
  rcases hκ with rfl | rfl | rfl
  · exact va_aldq (f := fun j => zw_ro B (S.2.1 o j)) (n := (zw_SH o).2) hA.1.1 hA.1.2.1 hA.2.1.1 hA.2.2.2.2.1 (o - 1) 4 (zw_wl_a ho (zw_cel_r B ca S (c := 16) (by rw [← hs]) (by decide))) rfl hi hd hk2
  · exact va_aldq (f := fun j => zw_ro B (S.2.1 o j)) (n := (zw_SH o).2) hA.1.1 hA.1.2.1 hA.2.1.1 hA.2.2.2.2.1 (o - 1) 5 (zw_wl_a ho (zw_cel_r B ca S (c := 17) (by rw [← hs]) (by decide))) rfl hi hd hk2
  · exact va_aldq (f := fun j => zw_ro B (S.2.1 o j)) (n := (zw_SH o).2) hA.1.1 hA.1.2.1 hA.2.1.1 hA.2.2.2.2.1 (o - 1) 6 (zw_wl_a ho (zw_cel_r B ca S (c := 18) (by rw [← hs]) (by decide))) rfl hi hd hk2
theorem zw_upd_eq {f : Nat → Nat → Int32} {o j : Nat} {x : Int32} : zw_u f o j x o = upd (f o) j x := by
  rw [zw_u_row]
  rfl
theorem zw_set_i {B : zw_B} {ca : Nat → ClassId} {n o c j : Nat} {S : aS} {x : Int32} (ho : 1 ≤ o ∧ o ≤ n) (hs : (zw_SH o).1 = c) (hc : 12 ≤ c ∧ c < 16 ∧ c ≠ 14) : (zw_wl B ca n S).set (o - 1) (zw_ad B o, .inl (ca c, (zw_SH o).2, .inl (upd (S.1 o) j x))) = zw_wl B ca n (zw_u S.1 o j x, S.2) :=
  zw_wl_set B ca S (zw_u S.1 o j x, S.2) ho.1 ho.2 (by rw [zw_cel_i B ca _ (c := c) (N := (zw_SH o).2) (by rw [← hs]) hc]; dsimp only; rw [zw_upd_eq]) (fun a ha => zw_cel_off B ca (zw_u_off _ _ _ ha) rfl rfl)
theorem zv_iast {o : Nat} {i x : Int32} (hd : decode M.2.1 pc = .ok (.iastore, 1)) (ho : 1 ≤ o ∧ o ≤ n0 + k) (hs : (zw_SH o).1 = 13) (hi : vp_in i (zw_SH o).2) (h : zw_V X M d mc ms n0 R (pc + 1) k ss L st (zw_u S.1 o i.toNatClampNeg x, S.2)) : zw_V X M d mc ms n0 R pc k ss L (.int x :: .int i :: .ref o :: st) S := fun l p e s m args below meth c H locs B D ca ls hA =>
  va_iast (f := S.1 o) (n := (zw_SH o).2) (A := fun q => B.1 ≤ q) hA.1.1 hA.1.2.1 hA.2.1.1 hA.2.2.2.2.1 (zw_wl_D B ca S hA.2.2.2.1.2) hA.2.2.2.2.2.1 (o - 1) 1 (zw_wl_a ho (zw_cel_i B ca S (c := 13) (by rw [← hs]) (by decide))) rfl hi hd (fun H1 locs1 hP hD hS => h l p e s m args below meth c H1 locs1 B D ca ls ⟨hA.1, hA.2.1, hA.2.2.1, hA.2.2.2.1, (by rw [zw_set_i ho hs (by decide)] at hP; exact hP), hS, hA.2.2.2.2.2.2⟩)
theorem zv_bast {o : Nat} {i x : Int32} (hd : decode M.2.1 pc = .ok (.bastore, 1)) (ho : 1 ≤ o ∧ o ≤ n0 + k) (hs : (zw_SH o).1 = 12) (hi : vp_in i (zw_SH o).2) (h : zw_V X M d mc ms n0 R (pc + 1) k ss L st (zw_u S.1 o i.toNatClampNeg (x.toInt8.toInt32), S.2)) : zw_V X M d mc ms n0 R pc k ss L (.int x :: .int i :: .ref o :: st) S := fun l p e s m args below meth c H locs B D ca ls hA =>
  va_bast (f := S.1 o) (n := (zw_SH o).2) (A := fun q => B.1 ≤ q) hA.1.1 hA.1.2.1 hA.2.1.1 hA.2.2.2.2.1 (zw_wl_D B ca S hA.2.2.2.1.2) hA.2.2.2.2.2.1 (o - 1) 0 (zw_wl_a ho (zw_cel_i B ca S (c := 12) (by rw [← hs]) (by decide))) rfl hi hd (fun H1 locs1 hP hD hS => h l p e s m args below meth c H1 locs1 B D ca ls ⟨hA.1, hA.2.1, hA.2.2.1, hA.2.2.2.1, (by rw [vp_nar_byte, zw_set_i ho hs (by decide)] at hP; exact hP), hS, hA.2.2.2.2.2.2⟩)
theorem zv_zast {o : Nat} {i x : Int32} (hd : decode M.2.1 pc = .ok (.bastore, 1)) (ho : 1 ≤ o ∧ o ≤ n0 + k) (hs : (zw_SH o).1 = 15) (hi : vp_in i (zw_SH o).2) (hx : x = 0 ∨ x = 1) (h : zw_V X M d mc ms n0 R (pc + 1) k ss L st (zw_u S.1 o i.toNatClampNeg x, S.2)) : zw_V X M d mc ms n0 R pc k ss L (.int x :: .int i :: .ref o :: st) S := fun l p e s m args below meth c H locs B D ca ls hA =>
  va_zast (f := S.1 o) (n := (zw_SH o).2) (A := fun q => B.1 ≤ q) hA.1.1 hA.1.2.1 hA.2.1.1 hA.2.2.2.2.1 (zw_wl_D B ca S hA.2.2.2.1.2) hA.2.2.2.2.2.1 (o - 1) 3 (zw_wl_a ho (zw_cel_i B ca S (c := 15) (by rw [← hs]) (by decide))) rfl hi hd (fun H1 locs1 hP hD hS => h l p e s m args below meth c H1 locs1 B D ca ls ⟨hA.1, hA.2.1, hA.2.2.1, hA.2.2.2.1, (by
    have e : vp_nar .boolean x = x := by rcases hx with rfl | rfl <;> decide +kernel
    rw [e, zw_set_i ho hs (by decide)] at hP; exact hP), hS, hA.2.2.2.2.2.2⟩)
theorem zv_last {o : Nat} {i : Int32} {x : Int64} (hd : decode M.2.1 pc = .ok (.lastore, 1)) (ho : 1 ≤ o ∧ o ≤ n0 + k) (hs : (zw_SH o).1 = 14) (hi : vp_in i (zw_SH o).2) (h : zw_V X M d mc ms n0 R (pc + 1) k ss L st (S.1, S.2.1, zw_u S.2.2 o i.toNatClampNeg x)) : zw_V X M d mc ms n0 R pc k ss L (.long x :: .int i :: .ref o :: st) S := fun l p e s m args below meth c H locs B D ca ls hA =>
  va_last (f := S.2.2 o) (n := (zw_SH o).2) (A := fun q => B.1 ≤ q) hA.1.1 hA.1.2.1 hA.2.1.1 hA.2.2.2.2.1 (zw_wl_D B ca S hA.2.2.2.1.2) hA.2.2.2.2.2.1 (o - 1) 2 (zw_wl_a ho (zw_cel_l B ca S (by rw [← hs]))) rfl hi hd (fun H1 locs1 hP hD hS => h l p e s m args below meth c H1 locs1 B D ca ls ⟨hA.1, hA.2.1, hA.2.2.1, hA.2.2.2.1, (by
    have e : (zw_wl B ca (n0 + k) S).set (o - 1) (zw_ad B o, .inl (ca 14, (zw_SH o).2, .inr (.inl (vp_updL (S.2.2 o) i.toNatClampNeg x)))) = zw_wl B ca (n0 + k) (S.1, S.2.1, zw_u S.2.2 o i.toNatClampNeg x) := zw_wl_set B ca S _ ho.1 ho.2 (by rw [zw_cel_l B ca _ (N := (zw_SH o).2) (by rw [← hs])]; dsimp only; rw [zw_u_row]; rfl) (fun a ha => zw_cel_off B ca rfl rfl (zw_u_off _ _ _ ha))
    rw [e] at hP; exact hP), hS, hA.2.2.2.2.2.2⟩)
theorem zv_aast {o v κ : Nat} {i : Int32} (hd : decode M.2.1 pc = .ok (.aastore, 1)) (ho : 1 ≤ o ∧ o ≤ n0 + k) (hs : (zw_SH o).1 = κ) (hκ : κ = 16 ∨ κ = 17 ∨ κ = 18) (hi : vp_in i (zw_SH o).2) (hv : 1 ≤ v ∧ v ≤ n0 + k) (hvs : (zw_SH v).1 = zw_ec κ) (h : zw_V X M d mc ms n0 R (pc + 1) k ss L st (S.1, zw_u S.2.1 o i.toNatClampNeg v, S.2.2)) : zw_V X M d mc ms n0 R pc k ss L (.ref v :: .int i :: .ref o :: st) S := by
  intro l p e s m args below meth c H locs B D ca ls hA
  have hset : (zw_wl B ca (n0 + k) S).set (o - 1) (zw_ad B o, .inl (ca κ, (zw_SH o).2, .inr (.inr (.inr (.inr (va_up (fun j => zw_ro B (S.2.1 o j)) i.toNatClampNeg (some (zw_ad B v)))))))) = zw_wl B ca (n0 + k) (S.1, zw_u S.2.1 o i.toNatClampNeg v, S.2.2) := by
    refine zw_wl_set B ca S _ ho.1 ho.2 ?_ (fun a ha => zw_cel_off B ca rfl (zw_u_off _ _ _ ha) rfl)
    rw [zw_cel_r B ca _ (c := κ) (N := (zw_SH o).2) (by rw [← hs]) (by omega)]
    dsimp only
    have e1 : (fun j => zw_ro B (zw_u S.2.1 o i.toNatClampNeg v o j)) = va_up (fun j => zw_ro B (S.2.1 o j)) i.toNatClampNeg (some (zw_ad B v)) := by
      funext j
      rw [zw_u_row]
      have hv0 : v ≠ 0 := by omega
      by_cases hj : j = i.toNatClampNeg
      · simp [va_up, hj, zw_ro, hv0]
      · simp [va_up, hj]
    rw [e1]
  have kk : ∀ (H1 : Heap) (locs1 : List Loc), va_P D zw_cl ((zw_wl B ca (n0 + k) S).set (o - 1) (zw_ad B o, .inl (ca κ, (zw_SH o).2, .inr (.inr (.inr (.inr (va_up (fun j => zw_ro B (S.2.1 o j)) i.toNatClampNeg (some (zw_ad B v))))))))) H1 → va_D (fun q => B.1 ≤ q) ((zw_wl B ca (n0 + k) S).set (o - 1) (zw_ad B o, .inl (ca κ, (zw_SH o).2, .inr (.inr (.inr (.inr (va_up (fun j => zw_ro B (S.2.1 o j)) i.toNatClampNeg (some (zw_ad B v))))))))) → va_S (fun q => B.1 ≤ q) s.heap H1 locs1 → W p l e (zw_rm d mc ms) s m args below meth c H1 locs1 k ss (MQ below (zw_QC X B D ca (n0 + mc) R) args s mc ms (fun q => B.1 ≤ q)) (F0 m (pc + 1) ls (st.map (zw_cv B))) := by
    intro H1 locs1 hP hD hS
    rw [hset] at hP
    exact h l p e s m args below meth c H1 locs1 B D ca ls ⟨hA.1, hA.2.1, hA.2.2.1, hA.2.2.2.1, hP, hS, hA.2.2.2.2.2.2⟩
  rcases hκ with rfl | rfl | rfl
  · exact va_astq (cl := zw_cl) (r := (RX0, TX0, 8)) (f := fun j => zw_ro B (S.2.1 o j)) (n := (zw_SH o).2) (A := fun q => B.1 ≤ q) hA.1.1 hA.1.2.1 hA.2.1.1 hA.2.2.2.2.1 (zw_wl_D B ca S hA.2.2.2.1.2) hA.2.2.2.2.2.1 (o - 1) 4 (v - 1) 0 (zw_wl_a ho (zw_cel_r B ca S (c := 16) (by rw [← hs]) (by decide))) rfl (zw_wl_a hv (zw_cel_o B ca S (c := 0) (N := (zw_SH v).2) (by rw [show (0 : Nat) = zw_ec 16 from rfl, ← hvs]) (by decide))) rfl hi hd kk
  · exact va_astq (cl := zw_cl) (r := (RX5, TX5, 3)) (f := fun j => zw_ro B (S.2.1 o j)) (n := (zw_SH o).2) (A := fun q => B.1 ≤ q) hA.1.1 hA.1.2.1 hA.2.1.1 hA.2.2.2.2.1 (zw_wl_D B ca S hA.2.2.2.1.2) hA.2.2.2.2.2.1 (o - 1) 5 (v - 1) 5 (zw_wl_a ho (zw_cel_r B ca S (c := 17) (by rw [← hs]) (by decide))) rfl (zw_wl_a hv (zw_cel_o B ca S (c := 5) (N := (zw_SH v).2) (by rw [show (5 : Nat) = zw_ec 17 from rfl, ← hvs]) (by decide))) rfl hi hd kk
  · exact va_astq (cl := zw_cl) (r := (RX7, TX7, 3)) (f := fun j => zw_ro B (S.2.1 o j)) (n := (zw_SH o).2) (A := fun q => B.1 ≤ q) hA.1.1 hA.1.2.1 hA.2.1.1 hA.2.2.2.2.1 (zw_wl_D B ca S hA.2.2.2.1.2) hA.2.2.2.2.2.1 (o - 1) 6 (v - 1) 7 (zw_wl_a ho (zw_cel_r B ca S (c := 18) (by rw [← hs]) (by decide))) rfl (zw_wl_a hv (zw_cel_o B ca S (c := 7) (N := (zw_SH v).2) (by rw [show (7 : Nat) = zw_ec 18 from rfl, ← hvs]) (by decide))) rfl hi hd kk
/-- an int array's length -/
theorem zv_alen {o : Nat} (hd : decode M.2.1 pc = .ok (.arraylength, 1)) (ho : 1 ≤ o ∧ o ≤ n0 + k) (hs : (zw_SH o).1 = 13) (h : zw_V X M d mc ms n0 R (pc + 1) k ss L (.int (Int32.ofNat (zw_SH o).2) :: st) S) : zw_V X M d mc ms n0 R pc k ss L (.ref o :: st) S := fun l p e s m args below meth c H locs B D ca ls hA =>
  va_alen (ty := .int) hA.1.1 hA.1.2.1 hA.2.1.1 hA.2.2.2.2.1 (o - 1) 1 (zw_wl_a ho (zw_cel_i B ca S (c := 13) (N := (zw_SH o).2) (by rw [← hs]) (by decide))) rfl rfl hd (h l p e s m args below meth c H locs B D ca ls hA)
/-- statics: an array of ints that nobody writes -/
theorem zv_gets {i a : Nat} (hd : decode M.2.1 pc = .ok (.getstatic i, 3)) (ha : a < 6) (hw : Cond.fieldLinkNest M.1.cls i "CutStones" (zw_sn a) "[I" "CutStones" ∈ zw_TN) (h : zw_V X M d mc ms n0 R (pc + 3) k ss L (.ref (1000 + a) :: st) S) : zw_V X M d mc ms n0 R pc k ss L st S := fun l p e s m args below meth c H locs B D ca ls hA =>
  va_getsN hA.1.1 hA.1.2.1 ((hA.2.1.2.2.1 a ha).1) hA.2.2.2.2.2.1 hA.1.2.2.2.1 (va_Nw.use rfl (hA.2.1.2.1.2.1 _ hw)) (fun x hx => hx) hd (h l p e s m args below meth c H locs B D ca ls hA)
theorem zv_getz {i : Nat} (hd : decode M.2.1 pc = .ok (.getstatic i, 3)) (hw : Cond.fieldLink M.1.cls i "java/lang/String" "COMPACT_STRINGS" "Z" ∈ zw_TG) (h : zw_V X M d mc ms n0 R (pc + 3) k ss L (.int 1 :: st) S) : zw_V X M d mc ms n0 R pc k ss L st S := fun l p e s m args below meth c H locs B D ca ls hA =>
  va_gets hA.1.1 hA.1.2.1 hA.2.1.2.2.2.2.2.1.1 hA.2.2.2.2.2.1 hA.1.2.2.2.1 (hA.2.1.2.1.1 _ hw args) (fun x hx => hx) hd (h l p e s m args below meth c H locs B D ca ls hA)
/-- a static of the JDK of which nobody asks what it is -/
theorem zv_getq {i : Nat} (hd : decode M.2.1 pc = .ok (.getstatic i, 3)) (hw : Cond.fieldLink M.1.cls i "jdk/internal/util/Preconditions" "SIOOBE_FORMATTER" "Ljava/util/function/BiFunction;" ∈ zw_TG) (h1 : zw_V X M d mc ms n0 R (pc + 3) k ss L (.null :: st) S) (h2 : zw_V X M d mc ms n0 R (pc + 3) k ss L (.ref 1013 :: st) S) : zw_V X M d mc ms n0 R pc k ss L st S := fun l p e s m args below meth c H locs B D ca ls hA => by
  rcases hA.2.1.2.2.2.2.2.1.2 with q | q
  · exact va_gets hA.1.1 hA.1.2.1 q hA.2.2.2.2.2.1 hA.1.2.2.2.1 (hA.2.1.2.1.1 _ hw args) (fun x hx => hx) hd (h1 l p e s m args below meth c H locs B D ca ls hA)
  · exact va_gets hA.1.1 hA.1.2.1 q hA.2.2.2.2.2.1 hA.1.2.2.2.1 (hA.2.1.2.1.1 _ hw args) (fun x hx => hx) hd (h2 l p e s m args below meth c H locs B D ca ls hA)
theorem zv_tald {a : Nat} {i : Int32} (hd : decode M.2.1 pc = .ok (.iaload, 1)) (ha : a < 6) (hi : vp_in i (zw_sl a).length) (h : zw_V X M d mc ms n0 R (pc + 1) k ss L (.int ((zw_sl a).getD i.toNatClampNeg 0) :: st) S) : zw_V X M d mc ms n0 R pc k ss L (.int i :: .ref (1000 + a) :: st) S := fun l p e s m args below meth c H locs B D ca ls hA =>
  va_ti hA.1.1 hA.1.2.1 ((hA.2.1.2.2.1 a ha).2) hA.2.2.2.2.2.1 hi rfl hd (h l p e s m args below meth c H locs B D ca ls hA)
/-- texts -/
theorem zv_ldcS {i a : Nat} (hd : decode M.2.1 pc = .ok (.ldc i, 2)) (ha : a < 3) (h1 : zw_so a = M.1.cls) (h2 : zw_si a = i) (h : zw_V X M d mc ms n0 R (pc + 2) k ss L (.ref (1006 + a) :: st) S) : zw_V X M d mc ms n0 R pc k ss L st S := fun l p e s m args below meth c H locs B D ca ls hA =>
  va_ldcS (own := M.1.cls) (tx := zw_stx a) hA.1.1 hA.1.2.1 hA.1.2.2.2.1 (by have q := hA.2.1.2.2.2.2.1 a ha; rw [h1, h2] at q; exact q) hd (h l p e s m args below meth c H locs B D ca ls hA)
theorem zv_sval {i a : Nat} (hd : decode M.2.1 pc = .ok (.getfield i, 3)) (ha : a < 3) (hw : Cond.fieldLink M.1.cls i "java/lang/String" "value" "[B" ∈ zw_TG) (h : zw_V X M d mc ms n0 R (pc + 3) k ss L (.ref (1009 + a) :: st) S) : zw_V X M d mc ms n0 R pc k ss L (.ref (1006 + a) :: st) S := fun l p e s m args below meth c H locs B D ca ls hA =>
  vk_getf hA.1.1 hA.1.2.1 (hA.2.1.2.2.2.1.1 a ha).2.2.1 hA.2.2.2.2.2.1 hA.1.2.2.2.1 (hA.2.1.2.1.1 _ hw args) (fun x hx => hx) hd (h l p e s m args below meth c H locs B D ca ls hA)
theorem zv_scod {i a : Nat} (hd : decode M.2.1 pc = .ok (.getfield i, 3)) (ha : a < 3) (hw : Cond.fieldLink M.1.cls i "java/lang/String" "coder" "B" ∈ zw_TG) (h : zw_V X M d mc ms n0 R (pc + 3) k ss L (.int 0 :: st) S) : zw_V X M d mc ms n0 R pc k ss L (.ref (1006 + a) :: st) S := fun l p e s m args below meth c H locs B D ca ls hA =>
  vk_getf hA.1.1 hA.1.2.1 (hA.2.1.2.2.2.1.1 a ha).2.1 hA.2.2.2.2.2.1 hA.1.2.2.2.1 (hA.2.1.2.1.1 _ hw args) (fun x hx => hx) hd (h l p e s m args below meth c H locs B D ca ls hA)
theorem zv_sbyt {a : Nat} {i : Int32} (hd : decode M.2.1 pc = .ok (.baload, 1)) (ha : a < 3) (hi : vp_in i (zw_len.getD a 0)) (h : zw_V X M d mc ms n0 R (pc + 1) k ss L (.int ((zw_byt.getD a []).getD i.toNatClampNeg 0) :: st) S) : zw_V X M d mc ms n0 R pc k ss L (.int i :: .ref (1009 + a) :: st) S := fun l p e s m args below meth c H locs B D ca ls hA =>
  va_tb hA.1.1 hA.1.2.1 (hA.2.1.2.2.2.1.1 a ha).2.2.2 hA.2.2.2.2.2.1 hi rfl hd (h l p e s m args below meth c H locs B D ca ls hA)
theorem zv_slen {a : Nat} (hd : decode M.2.1 pc = .ok (.arraylength, 1)) (ha : a < 3) (h : zw_V X M d mc ms n0 R (pc + 1) k ss L (.int (Int32.ofNat (zw_len.getD a 0)) :: st) S) : zw_V X M d mc ms n0 R pc k ss L (.ref (1009 + a) :: st) S := fun l p e s m args below meth c H locs B D ca ls hA =>
  va_tlen hA.1.1 hA.1.2.1 (hA.2.1.2.2.2.1.1 a ha).2.2.2 hA.2.2.2.2.2.1 rfl hd (h l p e s m args below meth c H locs B D ca ls hA)
/-- the script -/
theorem zv_xald {i : Int32} (hd : decode M.2.1 pc = .ok (.iaload, 1)) (hi : vp_in i X.1) (h : zw_V X M d mc ms n0 R (pc + 1) k ss L (.int (X.2 i.toNatClampNeg) :: st) S) : zw_V X M d mc ms n0 R pc k ss L (.int i :: .ref 1012 :: st) S := fun l p e s m args below meth c H locs B D ca ls hA =>
  va_sld (A := fun q => B.1 ≤ q) hA.1.1 hA.1.2.1 hA.2.1.2.2.2.2.2.2.1 hA.2.1.2.2.2.2.2.2.2.1 hA.2.1.2.2.2.2.2.2.2.2 hA.2.2.2.2.2.1 hi hd (h l p e s m args below meth c H locs B D ca ls hA)
theorem zv_xlen (hd : decode M.2.1 pc = .ok (.arraylength, 1)) (h : zw_V X M d mc ms n0 R (pc + 1) k ss L (.int (Int32.ofNat X.1) :: st) S) : zw_V X M d mc ms n0 R pc k ss L (.ref 1012 :: st) S := fun l p e s m args below meth c H locs B D ca ls hA =>
  va_slen (A := fun q => B.1 ≤ q) hA.1.1 hA.1.2.1 hA.2.1.2.2.2.2.2.2.1 hA.2.1.2.2.2.2.2.2.2.1 hA.2.1.2.2.2.2.2.2.2.2 hA.2.2.2.2.2.1 hd (h l p e s m args below meth c H locs B D ca ls hA)
end
