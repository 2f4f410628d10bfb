theorem zc_b_64 : (Int8.ofInt 64).toInt32 = (64 : Int32) := by decide +kernel
theorem zc_b_96 : (Int8.ofInt 96).toInt32 = (96 : Int32) := by decide +kernel
theorem zc_b_98 : (Int8.ofInt 98).toInt32 = (98 : Int32) := by decide +kernel
theorem zc_b_99 : (Int8.ofInt 99).toInt32 = (99 : Int32) := by decide +kernel
theorem zc_b_100 : (Int8.ofInt 100).toInt32 = (100 : Int32) := by decide +kernel
theorem zc_b_101 : (Int8.ofInt 101).toInt32 = (101 : Int32) := by decide +kernel
theorem zc_b_102 : (Int8.ofInt 102).toInt32 = (102 : Int32) := by decide +kernel
theorem zc_b_103 : (Int8.ofInt 103).toInt32 = (103 : Int32) := by decide +kernel
theorem zc_b_104 : (Int8.ofInt 104).toInt32 = (104 : Int32) := by decide +kernel
theorem zc_b_105 : (Int8.ofInt 105).toInt32 = (105 : Int32) := by decide +kernel
theorem zc_b_107 : (Int8.ofInt 107).toInt32 = (107 : Int32) := by decide +kernel
theorem zc_b_108 : (Int8.ofInt 108).toInt32 = (108 : Int32) := by decide +kernel
theorem zc_b_110 : (Int8.ofInt 110).toInt32 = (110 : Int32) := by decide +kernel
theorem zc_b_111 : (Int8.ofInt 111).toInt32 = (111 : Int32) := by decide +kernel
theorem zc_b_112 : (Int8.ofInt 112).toInt32 = (112 : Int32) := by decide +kernel
theorem zc_b_114 : (Int8.ofInt 114).toInt32 = (114 : Int32) := by decide +kernel
theorem zc_b_115 : (Int8.ofInt 115).toInt32 = (115 : Int32) := by decide +kernel
theorem zc_b_116 : (Int8.ofInt 116).toInt32 = (116 : Int32) := by decide +kernel
theorem zc_b_117 : (Int8.ofInt 117).toInt32 = (117 : Int32) := by decide +kernel
theorem zc_b_118 : (Int8.ofInt 118).toInt32 = (118 : Int32) := by decide +kernel
theorem zc_b_119 : (Int8.ofInt 119).toInt32 = (119 : Int32) := by decide +kernel
theorem zc_s_400 : (Int16.ofInt 400).toInt32 = (400 : Int32) := by decide +kernel
theorem zc_s_501 : (Int16.ofInt 501).toInt32 = (501 : Int32) := by decide +kernel
theorem zc_s_503 : (Int16.ofInt 503).toInt32 = (503 : Int32) := by decide +kernel
theorem zc_s_1040 : (Int16.ofInt 1040).toInt32 = (1040 : Int32) := by decide +kernel
theorem zc_s_2880 : (Int16.ofInt 2880).toInt32 = (2880 : Int32) := by decide +kernel
/-! ===== making cells: the rules as the walks of the constructors take them ===== -/
def zw_pI (S : aS) (o j : Nat) (v : Int32) : aS := (zw_u S.1 o j v, S.2)
def zw_pR (S : aS) (o j v : Nat) : aS := (S.1, zw_u S.2.1 o j v, S.2.2)
def zw_pJ (S : aS) (o j : Nat) (v : Int64) : aS := (S.1, S.2.1, zw_u S.2.2 o j v)
def zw_fill (S : aS) (a : Nat) (v : Int32) (len : Nat) : aS := (fun o j => if o = a ∧ j < len then v else S.1 o j, S.2)
def zw_lamps (S : aS) (o : Nat) (x y z : Int32) : aS := zw_pI (zw_pI (zw_pI S o 5 x) o 6 y) o 7 z
/-- all cells behind the n-th are still empty -/
def zw_Z (n : Nat) (S : aS) : Prop := ∀ o j, n < o → S.1 o j = 0 ∧ S.2.1 o j = 0 ∧ S.2.2 o j = 0
theorem zw_Z.up {n : Nat} {S : aS} (h : zw_Z n S) : zw_Z (n + 1) S := fun o j ho => h o j (by omega)
theorem zw_Z.pI {n o j : Nat} {v : Int32} {S : aS} (h : zw_Z n S) (ho : o ≤ n) : zw_Z n (zw_pI S o j v) := fun a b ha => ⟨by
  show zw_u S.1 o j v a b = 0
  unfold zw_u
  rw [if_neg (by omega)]
  exact (h a b ha).1, (h a b ha).2⟩
theorem zw_Z.pR {n o j v : Nat} {S : aS} (h : zw_Z n S) (ho : o ≤ n) : zw_Z n (zw_pR S o j v) := fun a b ha => ⟨(h a b ha).1, by
  show zw_u S.2.1 o j v a b = 0
  unfold zw_u
  rw [if_neg (by omega)]
  exact (h a b ha).2.1, (h a b ha).2.2⟩
theorem zw_Z.pJ {n o j : Nat} {v : Int64} {S : aS} (h : zw_Z n S) (ho : o ≤ n) : zw_Z n (zw_pJ S o j v) := fun a b ha => ⟨(h a b ha).1, (h a b ha).2.1, by
  show zw_u S.2.2 o j v a b = 0
  unfold zw_u
  rw [if_neg (by omega)]
  exact (h a b ha).2.2⟩
theorem zw_Z.fill {n a len : Nat} {v : Int32} {S : aS} (h : zw_Z n S) (ho : a ≤ n) : zw_Z n (zw_fill S a v len) := fun o b ha => ⟨by
  show (if o = a ∧ b < len then v else S.1 o b) = 0
  rw [if_neg (by omega)]
  exact (h o b ha).1, (h o b ha).2⟩
theorem zw_Z.lamps {n a : Nat} {x y z : Int32} {S : aS} (h : zw_Z n S) (ho : a ≤ n) : zw_Z n (zw_lamps S a x y z) := ((h.pI ho).pI ho).pI ho
section
variable {X : zw_X} {M : zw_M} {d mc ms n0 : Nat} {P : Option Value → aS → Prop} {pc k ss : Nat} {L st : List Value} {S : aS}
theorem kx_istore {i : Nat} {x : Int32} {L2 : List Value} (hd : decode M.2.1 pc = .ok (.istore i, 2)) (hn : i < M.2.2.1) (hL : zw_s1 L i (.int x) = L2) (h : zw_V X M d mc ms n0 P (pc + 2) k ss L2 st S) : zw_V X M d mc ms n0 P pc k ss L (.int x :: st) S := by
  subst hL
  exact zv_istore hd hn h
theorem kx_istore_n {i : Fin 4} {x : Int32} {L2 : List Value} (hd : decode M.2.1 pc = .ok (.istore_n i, 1)) (hn : i.val < M.2.2.1) (hL : zw_s1 L i.val (.int x) = L2) (h : zw_V X M d mc ms n0 P (pc + 1) k ss L2 st S) : zw_V X M d mc ms n0 P pc k ss L (.int x :: st) S := by
  subst hL
  exact zv_istore_n hd hn h
theorem kx_iinc {i : Nat} {z : Int} {x v x2 : Int32} {L2 : List Value} (hd : decode M.2.1 pc = .ok (.iinc i z, 3)) (hn : i < M.2.2.1) (hi : L.getD i .null = .int x) (hv : Int32.ofInt z = v) (hx : x2 = x + v) (hL : zw_s1 L i (.int x2) = L2) (h : zw_V X M d mc ms n0 P (pc + 3) k ss L2 st S) : zw_V X M d mc ms n0 P pc k ss L st S := by
  subst hx
  subst hL
  exact zv_iinc hd hn hi hv h
theorem kx_getR {o c j i v : Nat} {f : Bool} (hd : decode M.2.1 pc = .ok (.getfield i, 3)) (hl : zw_FL M.1.cls i c j f) (hR : zw_isR c j = true) (ho : 1 ≤ o ∧ o ≤ n0 + k) (hs : (zw_SH o).1 = c) (hv : S.2.1 o j = v) (hv0 : ¬ v = 0) (h : zw_V X M d mc ms n0 P (pc + 3) k ss L (.ref v :: st) S) : zw_V X M d mc ms n0 P pc k ss L (.ref o :: st) S := by
  obtain ⟨r, h1, h2, h3, h4⟩ := hl
  subst hv
  exact zv_getR hd h1 h2 h3 hR ho hs hv0 h
theorem kx_putI {o c j i : Nat} {v : Int32} (hd : decode M.2.1 pc = .ok (.putfield i, 3)) (hl : zw_FL M.1.cls i c j false) (ht : zw_ty c j = .int ∨ (zw_ty c j = .boolean ∧ (v = 0 ∨ v = 1))) (ho : 1 ≤ o ∧ o ≤ n0 + k) (hs : (zw_SH o).1 = c) (h : zw_V X M d mc ms n0 P (pc + 3) k ss L st (zw_pI S o j v)) : zw_V X M d mc ms n0 P pc k ss L (.int v :: .ref o :: st) S := by
  obtain ⟨r, h1, h2, h3, h4⟩ := hl
  exact zv_putI hd h1 h2 h3 h4 ht ho hs h
theorem kx_putR {o c j i v : Nat} {f : Bool} (hd : decode M.2.1 pc = .ok (.putfield i, 3)) (hl : zw_FL M.1.cls i c j f) (hf : f = false ∨ (f = true ∧ M.1.name = "<init>" ∧ (zw_cl[c]?).map (fun r => r.1) = some M.1.cls)) (hR : zw_isR c j = true) (ho : 1 ≤ o ∧ o ≤ n0 + k) (hs : (zw_SH o).1 = c) (hv : ¬ v = 0) (h : zw_V X M d mc ms n0 P (pc + 3) k ss L st (zw_pR S o j v)) : zw_V X M d mc ms n0 P pc k ss L (.ref v :: .ref o :: st) S := by
  obtain ⟨r, h1, h2, h3, h4⟩ := hl
  refine zv_putR hd h1 h2 h3 ?_ hR ho hs hv h
  rcases hf with rfl | ⟨rfl, q1, q2⟩
  · exact Or.inl h4
  · rw [h1] at q2
    exact Or.inr ⟨h4, q1, Option.some.inj q2⟩
theorem kx_iast {o j : Nat} {i v : Int32} (hd : decode M.2.1 pc = .ok (.iastore, 1)) (ho : 1 ≤ o ∧ o ≤ n0 + k) (hs : (zw_SH o).1 = 13) (hi : zw_in i (zw_SH o).2 = true) (hj : i.toNatClampNeg = j) (h : zw_V X M d mc ms n0 P (pc + 1) k ss L st (zw_pI S o j v)) : zw_V X M d mc ms n0 P pc k ss L (.int v :: .int i :: .ref o :: st) S := by
  subst hj
  have h3 : ¬ (i < 0 ∨ (zw_SH o).2 ≤ i.toNatClampNeg) := of_decide_eq_true hi
  exact zv_iast hd ho hs h3 h
theorem kx_last {o j : Nat} {i : Int32} {v : Int64} (hd : decode M.2.1 pc = .ok (.lastore, 1)) (ho : 1 ≤ o ∧ o ≤ n0 + k) (hs : (zw_SH o).1 = 14) (hi : zw_in i (zw_SH o).2 = true) (hj : i.toNatClampNeg = j) (h : zw_V X M d mc ms n0 P (pc + 1) k ss L st (zw_pJ S o j v)) : zw_V X M d mc ms n0 P pc k ss L (.long v :: .int i :: .ref o :: st) S := by
  subst hj
  have h3 : ¬ (i < 0 ∨ (zw_SH o).2 ≤ i.toNatClampNeg) := of_decide_eq_true hi
  exact zv_last hd ho hs h3 h
theorem kx_aast {o v κ j : Nat} {i : Int32} (hd : decode M.2.1 pc = .ok (.aastore, 1)) (ho : 1 ≤ o ∧ o ≤ n0 + k) (hs : (zw_SH o).1 = κ) (hκ : κ = 16 ∨ κ = 17 ∨ κ = 18) (hi : zw_in i (zw_SH o).2 = true) (hj : i.toNatClampNeg = j) (hv : 1 ≤ v ∧ v ≤ n0 + k) (hvs : (zw_SH v).1 = zw_ec κ) (h : zw_V X M d mc ms n0 P (pc + 1) k ss L st (zw_pR S o j v)) : zw_V X M d mc ms n0 P pc k ss L (.ref v :: .int i :: .ref o :: st) S := by
  subst hj
  have h3 : ¬ (i < 0 ∨ (zw_SH o).2 ≤ i.toNatClampNeg) := of_decide_eq_true hi
  exact zv_aast hd ho hs hκ h3 hv hvs h
theorem zw_dv {c : Nat} (hc : (List.range (zw_NF c)).all (fun j => decide (defaultValue (zw_ty c j) = if zw_isR c j = true then .null else .int 0)) = true) {S : aS} {o : Nat} (h1 : ∀ j, S.1 o j = 0) (h2 : ∀ j, S.2.1 o j = 0) : ∀ j, j < zw_NF c → zw_fv (0, fun _ => 0) S c o j = defaultValue (zw_ty c j) := by
  intro j hj
  rw [of_decide_eq_true (List.all_eq_true.mp hc j (List.mem_range.mpr hj))]
  unfold zw_fv
  rw [h1 j, h2 j]
  rfl
theorem kx_new {c i : Nat} {r : vw_C} (hd : decode M.2.1 pc = .ok (.new i, 3)) (hc : zw_cl[c]? = some r) (hw : Cond.classLink M.1.cls i r.1 ∈ zw_TG ∧ Cond.instantiable r.1 r.2.2 ∈ zw_TG ∧ Cond.initialized r.1 ∈ zw_TG) (hn : n0 + k + 1 < 1000) (hs : (zw_SH (n0 + k + 1)).1 = c) (hZ : zw_Z (n0 + k) S) (hm : k + 1 ≤ mc ∧ ss + r.2.2 ≤ ms) (hm2 : 0 < mc) (hdv : (List.range (zw_NF c)).all (fun j => decide (defaultValue (zw_ty c j) = if zw_isR c j = true then .null else .int 0)) = true)
    (h : zw_V X M d mc ms n0 P (pc + 3) (k + 1) (ss + r.2.2) L (.ref (n0 + k + 1) :: st) S) : zw_V X M d mc ms n0 P pc k ss L st S := by
  have h3 := (zw_Cls hc).2.2.1
  have z1 : ∀ j, S.1 (n0 + k + 1) j = 0 := fun j => (hZ _ j (by omega)).1
  have z2 : ∀ j, S.2.1 (n0 + k + 1) j = 0 := fun j => (hZ _ j (by omega)).2.1
  exact zv_new hd hc hw hn hs (fun j hj => zw_dv hdv z1 z2 j (by rw [← h3]; exact hj)) (fun j _ => z2 j) hm h
theorem kx_newa {a : ArrayType} {z : Int32} {N : Nat} (hd : decode M.2.1 pc = .ok (.newarray a, 2)) (ha : a = .byte ∨ a = .int ∨ a = .long ∨ a = .boolean) (hz : ¬ z < 0) (hN : z.toNatClampNeg = N) (hb : N ≤ 5000) (hn : n0 + k + 1 < 1000) (hs : zw_SH (n0 + k + 1) = (zw_at a, N)) (hZ : zw_Z (n0 + k) S) (hm : k + 1 ≤ mc ∧ ss + N ≤ ms) (hm2 : 0 < mc)
    (h : zw_V X M d mc ms n0 P (pc + 2) (k + 1) (ss + N) L (.ref (n0 + k + 1) :: st) S) : zw_V X M d mc ms n0 P pc k ss L (.int z :: st) S :=
  zv_newa hd ha hz hN hb hn hs (fun j => (hZ _ j (by omega)).1) (fun j => (hZ _ j (by omega)).2.2) hm h
theorem kx_anew {i κ : Nat} {z : Int32} {N : Nat} {C : String} (hd : decode M.2.1 pc = .ok (.anewarray i, 3)) (hw : Cond.classLink M.1.cls i C ∈ zw_TG) (hκ : (κ = 16 ∧ C = "CutStones$Drawing") ∨ (κ = 17 ∧ C = "CutStones$Rule") ∨ (κ = 18 ∧ C = "CutStones$Stuff")) (hz : ¬ z < 0) (hN : z.toNatClampNeg = N) (hb : N ≤ 5000) (hn : n0 + k + 1 < 1000) (hs : zw_SH (n0 + k + 1) = (κ, N)) (hZ : zw_Z (n0 + k) S) (hm : k + 1 ≤ mc ∧ ss + N ≤ ms) (hm2 : 0 < mc)
    (h : zw_V X M d mc ms n0 P (pc + 3) (k + 1) (ss + N) L (.ref (n0 + k + 1) :: st) S) : zw_V X M d mc ms n0 P pc k ss L (.int z :: st) S :=
  zv_anew hd hw hκ hz hN hb hn hs (fun j => (hZ _ j (by omega)).2.1) hm h
end
/-- Arrays.fill over an array that stands -/
theorem ci_fill_lp {X : zw_X} {P : Option Value → aS → Prop} {n a : Nat} {v : Int32} (ho : 1 ≤ a ∧ a ≤ n) (hs : (zw_SH a).1 = 13) (hl : (zw_SH a).2 < 2 ^ 31) : ∀ (m i : Nat) (I : zI) (S2 : zR × zJ) (I0 : zI), i + m = (zw_SH a).2 → I = (fun o j => if o = a ∧ j < i then v else I0 o j) → P none (zw_fill (I0, S2) a v (zw_SH a).2) → zw_V X M_J7_fill_53178 0 0 0 n P 5 0 0 [.ref a, .int v, .int (nI i), .int (nI (zw_SH a).2)] [] (I, S2) := by
  intro m
  induction m with
  | zero =>
    intro i I S2 I0 hi hI hP
    have e : i = (zw_SH a).2 := by omega
    subst e
    refine zv_iload_n (pc := 5) d_J7_fill_53178_5 rfl ?_
    refine zv_iload_n (pc := 6) d_J7_fill_53178_6 rfl ?_
    refine zv_icmp_ge (pc := 7) (tg := 20) d_J7_fill_53178_7 (by decide) (fun _ => ?_) (fun q => absurd (nI_le (Nat.le_refl _) hl) q)
    subst hI
    exact zv_vret (pc := 20) d_J7_fill_53178_20 rfl rfl (Nat.le_refl _) hP
  | succ m ih =>
    intro i I S2 I0 hi hI hP
    refine zv_iload_n (pc := 5) d_J7_fill_53178_5 rfl ?_
    refine zv_iload_n (pc := 6) d_J7_fill_53178_6 rfl ?_
    refine zv_icmp_ge (pc := 7) (tg := 20) d_J7_fill_53178_7 (by decide) (fun q => absurd q (nI_ge (by omega) hl)) (fun _ => ?_)
    refine zv_aload_n (pc := 10) d_J7_fill_53178_10 rfl ?_
    refine zv_iload_n (pc := 11) d_J7_fill_53178_11 rfl ?_
    refine zv_iload_n (pc := 12) d_J7_fill_53178_12 rfl ?_
    refine zv_iast (pc := 13) d_J7_fill_53178_13 ⟨ho.1, ho.2⟩ hs (vp_in_nI (by omega) hl) ?_
    refine kx_iinc (pc := 14) (x2 := nI (i + 1)) (L2 := [.ref a, .int v, .int (nI (i + 1)), .int (nI (zw_SH a).2)]) d_J7_fill_53178_14 (by decide) rfl zc_i_1 (nI_1 i).symm rfl ?_
    refine zv_goto (pc := 17) (tg := 5) d_J7_fill_53178_17 (by decide) ?_
    refine ih (i + 1) _ S2 I0 (by omega) ?_ hP
    funext o j
    show zw_u I a (nI i).toNatClampNeg v o j = _
    rw [nI_clamp (by omega), hI]
    unfold zw_u
    by_cases h1 : o = a
    · subst h1
      by_cases h2 : j = i
      · subst h2; simp
      · by_cases h3 : j < i
        · have h4 : j < i + 1 := by omega
          simp [h2, h3, h4]
        · have h4 : ¬ j < i + 1 := by omega
          simp [h2, h3, h4]
    · simp [h1]
theorem ci_fill {X : zw_X} {P : Option Value → aS → Prop} {n a len : Nat} {v : Int32} {S : aS} (ho : 1 ≤ a ∧ a ≤ n) (hs : zw_SH a = (13, len)) (hl : len < 5000) (hP : P none (zw_fill S a v len)) : zw_C X M_J7_fill_53178 0 0 0 n [.ref a, .int v] S P := by
  have hs1 : (zw_SH a).1 = 13 := by rw [hs]
  have hs2 : (zw_SH a).2 = len := by rw [hs]
  show zw_V X M_J7_fill_53178 0 0 0 n P 0 0 0 [.ref a, .int v, .null, .null] [] S
  refine zv_iconst (pc := 0) d_J7_fill_53178_0 zc_i_0 ?_
  refine kx_istore_n (pc := 1) (L2 := [.ref a, .int v, .int 0, .null]) d_J7_fill_53178_1 (by decide) rfl ?_
  refine zv_aload_n (pc := 2) d_J7_fill_53178_2 rfl ?_
  refine zv_alen (pc := 3) d_J7_fill_53178_3 ⟨ho.1, ho.2⟩ hs1 ?_
  refine kx_istore_n (pc := 4) (L2 := [.ref a, .int v, .int 0, .int (nI (zw_SH a).2)]) d_J7_fill_53178_4 (by decide) rfl ?_
  refine ci_fill_lp (v := v) ho hs1 (by omega) (zw_SH a).2 0 S.1 S.2 S.1 (by omega) ?_ (by rw [hs2]; exact hP)
  funext o j
  simp
theorem ci_lamps {X : zw_X} {P : Option Value → aS → Prop} {n a : Nat} {x y z : Int32} {S : aS} (ho : 1 ≤ a ∧ a ≤ n) (hs : (zw_SH a).1 = 6) (hP : P none (zw_lamps S a x y z)) : zw_C X M_X6_setLamps 0 0 0 n [.ref a, .int x, .int y, .int z] S P := by
  show zw_V X M_X6_setLamps 0 0 0 n P 0 0 0 [.ref a, .int x, .int y, .int z] [] S
  refine zv_aload_n (pc := 0) d_X6_setLamps_0 rfl ?_
  refine zv_iload_n (pc := 1) d_X6_setLamps_1 rfl ?_
  refine kx_putI (pc := 2) (o := a) d_X6_setLamps_2 lk_CutStones_Shine_32 (Or.inl rfl) ⟨ho.1, ho.2⟩ hs ?_
  refine zv_aload_n (pc := 5) d_X6_setLamps_5 rfl ?_
  refine zv_iload_n (pc := 6) d_X6_setLamps_6 rfl ?_
  refine kx_putI (pc := 7) (o := a) d_X6_setLamps_7 lk_CutStones_Shine_35 (Or.inl rfl) ⟨ho.1, ho.2⟩ hs ?_
  refine zv_aload_n (pc := 10) d_X6_setLamps_10 rfl ?_
  refine zv_iload_n (pc := 11) d_X6_setLamps_11 rfl ?_
  refine kx_putI (pc := 12) (o := a) d_X6_setLamps_12 lk_CutStones_Shine_38 (Or.inl rfl) ⟨ho.1, ho.2⟩ hs ?_
  exact zv_vret (pc := 15) d_X6_setLamps_15 rfl rfl (Nat.le_refl _) hP
theorem cn_X11_more (X : zw_X) (n : Nat) (hn : n < 1000) (v0 : Int64) (v2 : Int32) (I : zI) (R : zR) (J : zJ) {P : Option Value → aS → Prop} (o : Int64) (hf : f_X11_more v0 v2  = some o) (hk : P (some (.long o)) (I, R, J)) : zw_C X M_X11_more 0 0 0 n [.long v0, .int v2] (I, R, J) P := by
  show zw_V X M_X11_more 0 0 0 n P 0 0 0 [.long v0, .null, .int v2] [] (I, R, J)
  unfold f_X11_more at hf
  refine zv_iload_n (pc := 0) d_X11_more_0 rfl ?_
  rcases zw_ifE hf with ⟨c1, hf⟩ | ⟨c1, hf⟩
  · refine zv_if_ne (pc := 1) (tg := 8) d_X11_more_1 (by decide) (fun _ => ?_) (fun q => absurd q c1)
    refine zv_ldc2 (pc := 8) (v := 27) d_X11_more_8 (zw_mG (List.mem_of_getElem? (i := 1159) (by decide +kernel)) rfl) ?_
    refine zv_lload_n (pc := 11) d_X11_more_11 rfl ?_
    refine zv_lmul (pc := 12) d_X11_more_12 ?_
    refine zv_iload_n (pc := 13) d_X11_more_13 rfl ?_
    refine zv_bipush (pc := 14) d_X11_more_14 zc_b_97 ?_
    refine zv_isub (pc := 16) d_X11_more_16 ?_
    refine zv_iconst (pc := 17) d_X11_more_17 zc_i_1 ?_
    refine zv_iadd (pc := 18) d_X11_more_18 ?_
    refine zv_i2l (pc := 19) d_X11_more_19 ?_
    refine zv_ladd (pc := 20) d_X11_more_20 ?_
    cases hf
    exact zv_lret (pc := 21) d_X11_more_21 rfl rfl (Nat.le_refl _) hk
  · refine zv_if_ne (pc := 1) (tg := 8) d_X11_more_1 (by decide) (fun q => absurd q c1) (fun _ => ?_)
    refine zv_lload_n (pc := 4) d_X11_more_4 rfl ?_
    refine zv_goto (pc := 5) (tg := 21) d_X11_more_5 (by decide) ?_
    cases hf
    exact zv_lret (pc := 21) d_X11_more_21 rfl rfl (Nat.le_refl _) hk
theorem cn_X11_word (X : zw_X) (n : Nat) (hn : n < 1000) (v0 : Int32) (v1 : Int32) (v2 : Int32) (v3 : Int32) (v4 : Int32) (v5 : Int32) (v6 : Int32) (I : zI) (R : zR) (J : zJ) {P : Option Value → aS → Prop} (o : Int64) (hf : f_X11_word v0 v1 v2 v3 v4 v5 v6  = some o) (hk : P (some (.long o)) (I, R, J)) : zw_C X M_X11_word 1 0 0 n [.int v0, .int v1, .int v2, .int v3, .int v4, .int v5, .int v6] (I, R, J) P := by
  show zw_V X M_X11_word 1 0 0 n P 0 0 0 [.int v0, .int v1, .int v2, .int v3, .int v4, .int v5, .int v6] [] (I, R, J)
  unfold f_X11_word at hf
  refine zv_lconst (pc := 0) d_X11_word_0 zc_l_0 ?_
  refine zv_iload_n (pc := 1) d_X11_word_1 rfl ?_
  obtain ⟨q1, hq1, hf⟩ := zw_bdE hf
  refine zv_callS (pc := 2) (As := [.long 0, .int v0]) (st := []) (d2 := 0) (mc2 := 0) (ms2 := 0) (M2 := M_X11_more) (R2 := (fun r S => r = (some (.long q1)) ∧ S = (I, R, J))) d_X11_word_2 (zw_mG (List.mem_of_getElem? (i := 1156) (by decide +kernel)) rfl) ce_X11_more (Nat.le_of_ble_eq_true rfl) rfl (Nat.le_of_ble_eq_true rfl) (by decide) ⟨Nat.le_refl _, Nat.le_refl _⟩ (by omega) (cn_X11_more X n hn 0 v0 I R J _ hq1 ⟨rfl, rfl⟩) ?_
  rintro _ _ ⟨rfl, rfl⟩
  show zw_V X M_X11_word 1 0 0 n P (2 + 3) 0 0 [.int v0, .int v1, .int v2, .int v3, .int v4, .int v5, .int v6] [.long q1] (I, R, J)
  refine zv_iload_n (pc := 5) d_X11_word_5 rfl ?_
  obtain ⟨q2, hq2, hf⟩ := zw_bdE hf
  refine zv_callS (pc := 6) (As := [.long q1, .int v1]) (st := []) (d2 := 0) (mc2 := 0) (ms2 := 0) (M2 := M_X11_more) (R2 := (fun r S => r = (some (.long q2)) ∧ S = (I, R, J))) d_X11_word_6 (zw_mG (List.mem_of_getElem? (i := 1156) (by decide +kernel)) rfl) ce_X11_more (Nat.le_of_ble_eq_true rfl) rfl (Nat.le_of_ble_eq_true rfl) (by decide) ⟨Nat.le_refl _, Nat.le_refl _⟩ (by omega) (cn_X11_more X n hn q1 v1 I R J _ hq2 ⟨rfl, rfl⟩) ?_
  rintro _ _ ⟨rfl, rfl⟩
  show zw_V X M_X11_word 1 0 0 n P (6 + 3) 0 0 [.int v0, .int v1, .int v2, .int v3, .int v4, .int v5, .int v6] [.long q2] (I, R, J)
  refine zv_iload_n (pc := 9) d_X11_word_9 rfl ?_
  obtain ⟨q3, hq3, hf⟩ := zw_bdE hf
  refine zv_callS (pc := 10) (As := [.long q2, .int v2]) (st := []) (d2 := 0) (mc2 := 0) (ms2 := 0) (M2 := M_X11_more) (R2 := (fun r S => r = (some (.long q3)) ∧ S = (I, R, J))) d_X11_word_10 (zw_mG (List.mem_of_getElem? (i := 1156) (by decide +kernel)) rfl) ce_X11_more (Nat.le_of_ble_eq_true rfl) rfl (Nat.le_of_ble_eq_true rfl) (by decide) ⟨Nat.le_refl _, Nat.le_refl _⟩ (by omega) (cn_X11_more X n hn q2 v2 I R J _ hq3 ⟨rfl, rfl⟩) ?_
  rintro _ _ ⟨rfl, rfl⟩
  show zw_V X M_X11_word 1 0 0 n P (10 + 3) 0 0 [.int v0, .int v1, .int v2, .int v3, .int v4, .int v5, .int v6] [.long q3] (I, R, J)
  refine zv_iload_n (pc := 13) d_X11_word_13 rfl ?_
  obtain ⟨q4, hq4, hf⟩ := zw_bdE hf
  refine zv_callS (pc := 14) (As := [.long q3, .int v3]) (st := []) (d2 := 0) (mc2 := 0) (ms2 := 0) (M2 := M_X11_more) (R2 := (fun r S => r = (some (.long q4)) ∧ S = (I, R, J))) d_X11_word_14 (zw_mG (List.mem_of_getElem? (i := 1156) (by decide +kernel)) rfl) ce_X11_more (Nat.le_of_ble_eq_true rfl) rfl (Nat.le_of_ble_eq_true rfl) (by decide) ⟨Nat.le_refl _, Nat.le_refl _⟩ (by omega) (cn_X11_more X n hn q3 v3 I R J _ hq4 ⟨rfl, rfl⟩) ?_
  rintro _ _ ⟨rfl, rfl⟩
  show zw_V X M_X11_word 1 0 0 n P (14 + 3) 0 0 [.int v0, .int v1, .int v2, .int v3, .int v4, .int v5, .int v6] [.long q4] (I, R, J)
  refine zv_iload (pc := 17) d_X11_word_17 rfl ?_
  obtain ⟨q5, hq5, hf⟩ := zw_bdE hf
  refine zv_callS (pc := 19) (As := [.long q4, .int v4]) (st := []) (d2 := 0) (mc2 := 0) (ms2 := 0) (M2 := M_X11_more) (R2 := (fun r S => r = (some (.long q5)) ∧ S = (I, R, J))) d_X11_word_19 (zw_mG (List.mem_of_getElem? (i := 1156) (by decide +kernel)) rfl) ce_X11_more (Nat.le_of_ble_eq_true rfl) rfl (Nat.le_of_ble_eq_true rfl) (by decide) ⟨Nat.le_refl _, Nat.le_refl _⟩ (by omega) (cn_X11_more X n hn q4 v4 I R J _ hq5 ⟨rfl, rfl⟩) ?_
  rintro _ _ ⟨rfl, rfl⟩
  show zw_V X M_X11_word 1 0 0 n P (19 + 3) 0 0 [.int v0, .int v1, .int v2, .int v3, .int v4, .int v5, .int v6] [.long q5] (I, R, J)
  refine zv_iload (pc := 22) d_X11_word_22 rfl ?_
  obtain ⟨q6, hq6, hf⟩ := zw_bdE hf
  refine zv_callS (pc := 24) (As := [.long q5, .int v5]) (st := []) (d2 := 0) (mc2 := 0) (ms2 := 0) (M2 := M_X11_more) (R2 := (fun r S => r = (some (.long q6)) ∧ S = (I, R, J))) d_X11_word_24 (zw_mG (List.mem_of_getElem? (i := 1156) (by decide +kernel)) rfl) ce_X11_more (Nat.le_of_ble_eq_true rfl) rfl (Nat.le_of_ble_eq_true rfl) (by decide) ⟨Nat.le_refl _, Nat.le_refl _⟩ (by omega) (cn_X11_more X n hn q5 v5 I R J _ hq6 ⟨rfl, rfl⟩) ?_
  rintro _ _ ⟨rfl, rfl⟩
  show zw_V X M_X11_word 1 0 0 n P (24 + 3) 0 0 [.int v0, .int v1, .int v2, .int v3, .int v4, .int v5, .int v6] [.long q6] (I, R, J)
  refine zv_iload (pc := 27) d_X11_word_27 rfl ?_
  obtain ⟨q7, hq7, hf⟩ := zw_bdE hf
  refine zv_callS (pc := 29) (As := [.long q6, .int v6]) (st := []) (d2 := 0) (mc2 := 0) (ms2 := 0) (M2 := M_X11_more) (R2 := (fun r S => r = (some (.long q7)) ∧ S = (I, R, J))) d_X11_word_29 (zw_mG (List.mem_of_getElem? (i := 1156) (by decide +kernel)) rfl) ce_X11_more (Nat.le_of_ble_eq_true rfl) rfl (Nat.le_of_ble_eq_true rfl) (by decide) ⟨Nat.le_refl _, Nat.le_refl _⟩ (by omega) (cn_X11_more X n hn q6 v6 I R J _ hq7 ⟨rfl, rfl⟩) ?_
  rintro _ _ ⟨rfl, rfl⟩
  show zw_V X M_X11_word 1 0 0 n P (29 + 3) 0 0 [.int v0, .int v1, .int v2, .int v3, .int v4, .int v5, .int v6] [.long q7] (I, R, J)
  cases hf
  exact zv_lret (pc := 32) d_X11_word_32 rfl rfl (Nat.le_refl _) hk
theorem ci_word {X : zw_X} {P : Option Value → aS → Prop} {n : Nat} {S : aS} (a b c d e f g : Int32) (v : Int64) (hv : f_X11_word a b c d e f g = some v) (hP : P (some (.long v)) S) (hn : n < 1000 := by decide) : zw_C X M_X11_word 1 0 0 n [.int a, .int b, .int c, .int d, .int e, .int f, .int g] S P := cn_X11_word X n hn a b c d e f g S.1 S.2.1 S.2.2 v hv hP
