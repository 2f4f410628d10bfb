theorem zc_b_31 : (Int8.ofInt 31).toInt32 = (31 : Int32) := by decide +kernel
theorem zc_i_9 : Int32.ofInt 9 = (9 : Int32) := by decide +kernel
abbrev M_L_law : zw_M := (⟨"CutStonesLaw", "law", "([I)Z"⟩, code, 4, some .boolean)
section
variable {X : zw_X} {M : zw_M} {d mc ms n0 : Nat} {P : Option Value → aS → Prop} {pc k ss : Nat} {L st : List Value} {S : aS}
theorem kx_tsOut {a lo hi : Int} {offs : Array Int} {len : Nat} {x : Int32} {tg : Nat} (hd : decode M.2.1 pc = .ok (.tableswitch a lo hi offs, len)) (hx : x.toInt < lo ∨ hi < x.toInt) (ht : (pc : Int) + a = (tg : Int)) (h : zw_V X M d mc ms n0 P tg k ss L st S) : zw_V X M d mc ms n0 P pc k ss L (.int x :: st) S := fun l p e s m args below meth c H locs B D ca ls hA => lv_tableOut hA.1.1 hA.1.2.1 hd hx ht (h l p e s m args below meth c H locs B D ca ls hA)
theorem kx_tsIn {a lo hi : Int} {offs : Array Int} {len : Nat} {x : Int32} {z : Int} {tg : Nat} (hd : decode M.2.1 pc = .ok (.tableswitch a lo hi offs, len)) (h1 : ¬ x.toInt < lo) (h2 : ¬ hi < x.toInt) (ho : offs[(x.toInt - lo).toNat]? = some z) (ht : (pc : Int) + z = (tg : Int)) (h : zw_V X M d mc ms n0 P tg k ss L st S) : zw_V X M d mc ms n0 P pc k ss L (.int x :: st) S := fun l p e s m args below meth c H locs B D ca ls hA => lv_tableIn hA.1.1 hA.1.2.1 hd h1 h2 ho ht (h l p e s m args below meth c H locs B D ca ls hA)
theorem kx_astore_n {i : Fin 4} {x : Nat} {L2 : List Value} (hd : decode M.2.1 pc = .ok (.astore_n i, 1)) (hn : i.val < M.2.2.1) (hL : zw_s1 L i.val (.ref x) = L2) (h : zw_V X M d mc ms n0 P (pc + 1) k ss L2 st S) : zw_V X M d mc ms n0 P pc k ss L (.ref x :: st) S := by
  subst hL
  exact zv_astore_n hd hn h
end
theorem zl_in {i L : Nat} {z : Int32} (k : Nat) (hz : z = nI k) (h : i + 9 ≤ L) (hk : k < 9) (hL : L ≤ 4608) : vp_in (nI i + z) L := by
  rw [hz, nI_add]
  exact vp_in_nI (by omega) (by omega)
theorem zl_in0 {i L : Nat} (h : i + 9 ≤ L) (hL : L ≤ 4608) : vp_in (nI i) L := vp_in_nI (by omega) (by omega)
theorem zl_end {i L : Nat} (h : ¬ i + 9 ≤ L) (hi : i ≤ 5000) (hL : L ≤ 4608) : Int32.ofNat L - 9 < nI i := by
  have e : Int32.ofNat L - 9 = nI L - nI 9 := rfl
  rw [e, Int32.lt_iff_toInt_lt, pk_sub_toInt (by omega) (by omega), nI_toInt (by omega)]
  omega
theorem zl_go {i L : Nat} (h : i + 9 ≤ L) (hL : L ≤ 4608) : ¬ Int32.ofNat L - 9 < nI i := by
  have e : Int32.ofNat L - 9 = nI L - nI 9 := rfl
  rw [e, Int32.lt_iff_toInt_lt, pk_sub_toInt (by omega) (by omega), nI_toInt (by omega)]
  omega
