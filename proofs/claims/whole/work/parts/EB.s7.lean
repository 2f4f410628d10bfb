/-! ===== the reader's references: only its house ===== -/
def zE_S7 (f : zR) : Prop := ∀ j, j ≠ 2 → f 7 j = 0
theorem zE_S7.pR {S : aS} {o j v : Nat} (h : zE_S7 S.2.1) (hv : o ≠ 7 ∨ j = 2) : zE_S7 (zw_pR S o j v).2.1 := by
  intro a ha
  have e : (zw_pR S o j v).2.1 7 a = zw_u S.2.1 o j v 7 a := rfl
  rw [e]
  unfold zw_u
  split
  · rename_i q; omega
  · exact h a ha
theorem kQ_X8_init_2 {S : aS} (hZ : zE_S7 S.2.1) : zE_S7 (kS_X8_init_2 S).2.1 := by
  unfold kS_X8_init_2
  have hZ := hZ.pR (o := 2) (j := 0) (v := 3) (by decide)
  have hZ : zE_S7 ((zw_pI (zw_pR S 2 0 3) 2 1 0)).2.1 := hZ
  have hZ := hZ.pR (o := 2) (j := 2) (v := 4) (by decide)
  have hZ := hZ.pR (o := 2) (j := 3) (v := 5) (by decide)
  have hZ := hZ.pR (o := 2) (j := 4) (v := 6) (by decide)
  exact hZ
theorem kQ_X7_init_17 {S : aS} (hZ : zE_S7 S.2.1) : zE_S7 (kS_X7_init_17 S).2.1 := by
  unfold kS_X7_init_17
  have hZ := hZ.pR (o := 17) (j := 0) (v := 18) (by decide)
  have hZ := hZ.pR (o := 17) (j := 1) (v := 19) (by decide)
  have hZ : zE_S7 ((zw_pI (zw_pR (zw_pR S 17 0 18) 17 1 19) 17 2 200)).2.1 := hZ
  exact hZ
theorem kQ_X7_init_20 {S : aS} (hZ : zE_S7 S.2.1) : zE_S7 (kS_X7_init_20 S).2.1 := by
  unfold kS_X7_init_20
  have hZ := hZ.pR (o := 20) (j := 0) (v := 21) (by decide)
  have hZ := hZ.pR (o := 20) (j := 1) (v := 22) (by decide)
  have hZ : zE_S7 ((zw_pI (zw_pR (zw_pR S 20 0 21) 20 1 22) 20 2 200)).2.1 := hZ
  exact hZ
theorem kQ_X7_init_23 {S : aS} (hZ : zE_S7 S.2.1) : zE_S7 (kS_X7_init_23 S).2.1 := by
  unfold kS_X7_init_23
  have hZ := hZ.pR (o := 23) (j := 0) (v := 24) (by decide)
  have hZ := hZ.pR (o := 23) (j := 1) (v := 25) (by decide)
  have hZ : zE_S7 ((zw_pI (zw_pR (zw_pR S 23 0 24) 23 1 25) 23 2 200)).2.1 := hZ
  exact hZ
theorem kQ_X7_init_26 {S : aS} (hZ : zE_S7 S.2.1) : zE_S7 (kS_X7_init_26 S).2.1 := by
  unfold kS_X7_init_26
  have hZ := hZ.pR (o := 26) (j := 0) (v := 27) (by decide)
  have hZ := hZ.pR (o := 26) (j := 1) (v := 28) (by decide)
  have hZ : zE_S7 ((zw_pI (zw_pR (zw_pR S 26 0 27) 26 1 28) 26 2 200)).2.1 := hZ
  exact hZ
theorem kQ_X0_init_29 {S : aS} (hZ : zE_S7 S.2.1) : zE_S7 (kS_X0_init_29 S).2.1 := by
  unfold kS_X0_init_29
  have hZ := hZ.pR (o := 29) (j := 0) (v := 30) (by decide)
  have hZ : zE_S7 ((zw_pI (zw_pR S 29 0 30) 29 1 0)).2.1 := hZ
  have hZ : zE_S7 ((zw_pI (zw_pI (zw_pR S 29 0 30) 29 1 0) 29 2 0)).2.1 := hZ
  have hZ : zE_S7 ((zw_pI (zw_pI (zw_pI (zw_pR S 29 0 30) 29 1 0) 29 2 0) 29 3 0)).2.1 := hZ
  have hZ : zE_S7 ((zw_pI (zw_pI (zw_pI (zw_pI (zw_pR S 29 0 30) 29 1 0) 29 2 0) 29 3 0) 29 4 0)).2.1 := hZ
  have hZ : zE_S7 ((zw_pI (zw_pI (zw_pI (zw_pI (zw_pI (zw_pR S 29 0 30) 29 1 0) 29 2 0) 29 3 0) 29 4 0) 29 5 0)).2.1 := hZ
  have hZ : zE_S7 ((zw_pI (zw_pI (zw_pI (zw_pI (zw_pI (zw_pI (zw_pR S 29 0 30) 29 1 0) 29 2 0) 29 3 0) 29 4 0) 29 5 0) 29 6 0)).2.1 := hZ
  have hZ : zE_S7 ((zw_pI (zw_pI (zw_pI (zw_pI (zw_pI (zw_pI (zw_pI (zw_pR S 29 0 30) 29 1 0) 29 2 0) 29 3 0) 29 4 0) 29 5 0) 29 6 0) 29 7 0)).2.1 := hZ
  exact hZ
theorem kQ_X0_init_31 {S : aS} (hZ : zE_S7 S.2.1) : zE_S7 (kS_X0_init_31 S).2.1 := by
  unfold kS_X0_init_31
  have hZ := hZ.pR (o := 31) (j := 0) (v := 32) (by decide)
  have hZ : zE_S7 ((zw_pI (zw_pR S 31 0 32) 31 1 0)).2.1 := hZ
  have hZ : zE_S7 ((zw_pI (zw_pI (zw_pR S 31 0 32) 31 1 0) 31 2 0)).2.1 := hZ
  have hZ : zE_S7 ((zw_pI (zw_pI (zw_pI (zw_pR S 31 0 32) 31 1 0) 31 2 0) 31 3 0)).2.1 := hZ
  have hZ : zE_S7 ((zw_pI (zw_pI (zw_pI (zw_pI (zw_pR S 31 0 32) 31 1 0) 31 2 0) 31 3 0) 31 4 0)).2.1 := hZ
  have hZ : zE_S7 ((zw_pI (zw_pI (zw_pI (zw_pI (zw_pI (zw_pR S 31 0 32) 31 1 0) 31 2 0) 31 3 0) 31 4 0) 31 5 0)).2.1 := hZ
  have hZ : zE_S7 ((zw_pI (zw_pI (zw_pI (zw_pI (zw_pI (zw_pI (zw_pR S 31 0 32) 31 1 0) 31 2 0) 31 3 0) 31 4 0) 31 5 0) 31 6 0)).2.1 := hZ
  have hZ : zE_S7 ((zw_pI (zw_pI (zw_pI (zw_pI (zw_pI (zw_pI (zw_pI (zw_pR S 31 0 32) 31 1 0) 31 2 0) 31 3 0) 31 4 0) 31 5 0) 31 6 0) 31 7 0)).2.1 := hZ
  exact hZ
theorem kQ_X0_init_33 {S : aS} (hZ : zE_S7 S.2.1) : zE_S7 (kS_X0_init_33 S).2.1 := by
  unfold kS_X0_init_33
  have hZ := hZ.pR (o := 33) (j := 0) (v := 34) (by decide)
  have hZ : zE_S7 ((zw_pI (zw_pR S 33 0 34) 33 1 0)).2.1 := hZ
  have hZ : zE_S7 ((zw_pI (zw_pI (zw_pR S 33 0 34) 33 1 0) 33 2 0)).2.1 := hZ
  have hZ : zE_S7 ((zw_pI (zw_pI (zw_pI (zw_pR S 33 0 34) 33 1 0) 33 2 0) 33 3 0)).2.1 := hZ
  have hZ : zE_S7 ((zw_pI (zw_pI (zw_pI (zw_pI (zw_pR S 33 0 34) 33 1 0) 33 2 0) 33 3 0) 33 4 0)).2.1 := hZ
  have hZ : zE_S7 ((zw_pI (zw_pI (zw_pI (zw_pI (zw_pI (zw_pR S 33 0 34) 33 1 0) 33 2 0) 33 3 0) 33 4 0) 33 5 0)).2.1 := hZ
  have hZ : zE_S7 ((zw_pI (zw_pI (zw_pI (zw_pI (zw_pI (zw_pI (zw_pR S 33 0 34) 33 1 0) 33 2 0) 33 3 0) 33 4 0) 33 5 0) 33 6 0)).2.1 := hZ
  have hZ : zE_S7 ((zw_pI (zw_pI (zw_pI (zw_pI (zw_pI (zw_pI (zw_pI (zw_pR S 33 0 34) 33 1 0) 33 2 0) 33 3 0) 33 4 0) 33 5 0) 33 6 0) 33 7 0)).2.1 := hZ
  exact hZ
theorem kQ_X0_init_35 {S : aS} (hZ : zE_S7 S.2.1) : zE_S7 (kS_X0_init_35 S).2.1 := by
  unfold kS_X0_init_35
  have hZ := hZ.pR (o := 35) (j := 0) (v := 36) (by decide)
  have hZ : zE_S7 ((zw_pI (zw_pR S 35 0 36) 35 1 0)).2.1 := hZ
  have hZ : zE_S7 ((zw_pI (zw_pI (zw_pR S 35 0 36) 35 1 0) 35 2 0)).2.1 := hZ
  have hZ : zE_S7 ((zw_pI (zw_pI (zw_pI (zw_pR S 35 0 36) 35 1 0) 35 2 0) 35 3 0)).2.1 := hZ
  have hZ : zE_S7 ((zw_pI (zw_pI (zw_pI (zw_pI (zw_pR S 35 0 36) 35 1 0) 35 2 0) 35 3 0) 35 4 0)).2.1 := hZ
  have hZ : zE_S7 ((zw_pI (zw_pI (zw_pI (zw_pI (zw_pI (zw_pR S 35 0 36) 35 1 0) 35 2 0) 35 3 0) 35 4 0) 35 5 0)).2.1 := hZ
  have hZ : zE_S7 ((zw_pI (zw_pI (zw_pI (zw_pI (zw_pI (zw_pI (zw_pR S 35 0 36) 35 1 0) 35 2 0) 35 3 0) 35 4 0) 35 5 0) 35 6 0)).2.1 := hZ
  have hZ : zE_S7 ((zw_pI (zw_pI (zw_pI (zw_pI (zw_pI (zw_pI (zw_pI (zw_pR S 35 0 36) 35 1 0) 35 2 0) 35 3 0) 35 4 0) 35 5 0) 35 6 0) 35 7 0)).2.1 := hZ
  exact hZ
theorem kQ_X0_init_37 {S : aS} (hZ : zE_S7 S.2.1) : zE_S7 (kS_X0_init_37 S).2.1 := by
  unfold kS_X0_init_37
  have hZ := hZ.pR (o := 37) (j := 0) (v := 38) (by decide)
  have hZ : zE_S7 ((zw_pI (zw_pR S 37 0 38) 37 1 0)).2.1 := hZ
  have hZ : zE_S7 ((zw_pI (zw_pI (zw_pR S 37 0 38) 37 1 0) 37 2 0)).2.1 := hZ
  have hZ : zE_S7 ((zw_pI (zw_pI (zw_pI (zw_pR S 37 0 38) 37 1 0) 37 2 0) 37 3 0)).2.1 := hZ
  have hZ : zE_S7 ((zw_pI (zw_pI (zw_pI (zw_pI (zw_pR S 37 0 38) 37 1 0) 37 2 0) 37 3 0) 37 4 0)).2.1 := hZ
  have hZ : zE_S7 ((zw_pI (zw_pI (zw_pI (zw_pI (zw_pI (zw_pR S 37 0 38) 37 1 0) 37 2 0) 37 3 0) 37 4 0) 37 5 0)).2.1 := hZ
  have hZ : zE_S7 ((zw_pI (zw_pI (zw_pI (zw_pI (zw_pI (zw_pI (zw_pR S 37 0 38) 37 1 0) 37 2 0) 37 3 0) 37 4 0) 37 5 0) 37 6 0)).2.1 := hZ
  have hZ : zE_S7 ((zw_pI (zw_pI (zw_pI (zw_pI (zw_pI (zw_pI (zw_pI (zw_pR S 37 0 38) 37 1 0) 37 2 0) 37 3 0) 37 4 0) 37 5 0) 37 6 0) 37 7 0)).2.1 := hZ
  exact hZ
theorem kQ_X0_init_39 {S : aS} (hZ : zE_S7 S.2.1) : zE_S7 (kS_X0_init_39 S).2.1 := by
  unfold kS_X0_init_39
  have hZ := hZ.pR (o := 39) (j := 0) (v := 40) (by decide)
  have hZ : zE_S7 ((zw_pI (zw_pR S 39 0 40) 39 1 0)).2.1 := hZ
  have hZ : zE_S7 ((zw_pI (zw_pI (zw_pR S 39 0 40) 39 1 0) 39 2 0)).2.1 := hZ
  have hZ : zE_S7 ((zw_pI (zw_pI (zw_pI (zw_pR S 39 0 40) 39 1 0) 39 2 0) 39 3 0)).2.1 := hZ
  have hZ : zE_S7 ((zw_pI (zw_pI (zw_pI (zw_pI (zw_pR S 39 0 40) 39 1 0) 39 2 0) 39 3 0) 39 4 0)).2.1 := hZ
  have hZ : zE_S7 ((zw_pI (zw_pI (zw_pI (zw_pI (zw_pI (zw_pR S 39 0 40) 39 1 0) 39 2 0) 39 3 0) 39 4 0) 39 5 0)).2.1 := hZ
  have hZ : zE_S7 ((zw_pI (zw_pI (zw_pI (zw_pI (zw_pI (zw_pI (zw_pR S 39 0 40) 39 1 0) 39 2 0) 39 3 0) 39 4 0) 39 5 0) 39 6 0)).2.1 := hZ
  have hZ : zE_S7 ((zw_pI (zw_pI (zw_pI (zw_pI (zw_pI (zw_pI (zw_pI (zw_pR S 39 0 40) 39 1 0) 39 2 0) 39 3 0) 39 4 0) 39 5 0) 39 6 0) 39 7 0)).2.1 := hZ
  exact hZ
theorem kQ_X0_init_41 {S : aS} (hZ : zE_S7 S.2.1) : zE_S7 (kS_X0_init_41 S).2.1 := by
  unfold kS_X0_init_41
  have hZ := hZ.pR (o := 41) (j := 0) (v := 42) (by decide)
  have hZ : zE_S7 ((zw_pI (zw_pR S 41 0 42) 41 1 0)).2.1 := hZ
  have hZ : zE_S7 ((zw_pI (zw_pI (zw_pR S 41 0 42) 41 1 0) 41 2 0)).2.1 := hZ
  have hZ : zE_S7 ((zw_pI (zw_pI (zw_pI (zw_pR S 41 0 42) 41 1 0) 41 2 0) 41 3 0)).2.1 := hZ
  have hZ : zE_S7 ((zw_pI (zw_pI (zw_pI (zw_pI (zw_pR S 41 0 42) 41 1 0) 41 2 0) 41 3 0) 41 4 0)).2.1 := hZ
  have hZ : zE_S7 ((zw_pI (zw_pI (zw_pI (zw_pI (zw_pI (zw_pR S 41 0 42) 41 1 0) 41 2 0) 41 3 0) 41 4 0) 41 5 0)).2.1 := hZ
  have hZ : zE_S7 ((zw_pI (zw_pI (zw_pI (zw_pI (zw_pI (zw_pI (zw_pR S 41 0 42) 41 1 0) 41 2 0) 41 3 0) 41 4 0) 41 5 0) 41 6 0)).2.1 := hZ
  have hZ : zE_S7 ((zw_pI (zw_pI (zw_pI (zw_pI (zw_pI (zw_pI (zw_pI (zw_pR S 41 0 42) 41 1 0) 41 2 0) 41 3 0) 41 4 0) 41 5 0) 41 6 0) 41 7 0)).2.1 := hZ
  exact hZ
theorem kQ_X0_init_43 {S : aS} (hZ : zE_S7 S.2.1) : zE_S7 (kS_X0_init_43 S).2.1 := by
  unfold kS_X0_init_43
  have hZ := hZ.pR (o := 43) (j := 0) (v := 44) (by decide)
  have hZ : zE_S7 ((zw_pI (zw_pR S 43 0 44) 43 1 0)).2.1 := hZ
  have hZ : zE_S7 ((zw_pI (zw_pI (zw_pR S 43 0 44) 43 1 0) 43 2 0)).2.1 := hZ
  have hZ : zE_S7 ((zw_pI (zw_pI (zw_pI (zw_pR S 43 0 44) 43 1 0) 43 2 0) 43 3 0)).2.1 := hZ
  have hZ : zE_S7 ((zw_pI (zw_pI (zw_pI (zw_pI (zw_pR S 43 0 44) 43 1 0) 43 2 0) 43 3 0) 43 4 0)).2.1 := hZ
  have hZ : zE_S7 ((zw_pI (zw_pI (zw_pI (zw_pI (zw_pI (zw_pR S 43 0 44) 43 1 0) 43 2 0) 43 3 0) 43 4 0) 43 5 0)).2.1 := hZ
  have hZ : zE_S7 ((zw_pI (zw_pI (zw_pI (zw_pI (zw_pI (zw_pI (zw_pR S 43 0 44) 43 1 0) 43 2 0) 43 3 0) 43 4 0) 43 5 0) 43 6 0)).2.1 := hZ
  have hZ : zE_S7 ((zw_pI (zw_pI (zw_pI (zw_pI (zw_pI (zw_pI (zw_pI (zw_pR S 43 0 44) 43 1 0) 43 2 0) 43 3 0) 43 4 0) 43 5 0) 43 6 0) 43 7 0)).2.1 := hZ
  exact hZ
theorem kQ_X0_init_45 {S : aS} (hZ : zE_S7 S.2.1) : zE_S7 (kS_X0_init_45 S).2.1 := by
  unfold kS_X0_init_45
  have hZ := hZ.pR (o := 45) (j := 0) (v := 46) (by decide)
  have hZ : zE_S7 ((zw_pI (zw_pR S 45 0 46) 45 1 0)).2.1 := hZ
  have hZ : zE_S7 ((zw_pI (zw_pI (zw_pR S 45 0 46) 45 1 0) 45 2 0)).2.1 := hZ
  have hZ : zE_S7 ((zw_pI (zw_pI (zw_pI (zw_pR S 45 0 46) 45 1 0) 45 2 0) 45 3 0)).2.1 := hZ
  have hZ : zE_S7 ((zw_pI (zw_pI (zw_pI (zw_pI (zw_pR S 45 0 46) 45 1 0) 45 2 0) 45 3 0) 45 4 0)).2.1 := hZ
  have hZ : zE_S7 ((zw_pI (zw_pI (zw_pI (zw_pI (zw_pI (zw_pR S 45 0 46) 45 1 0) 45 2 0) 45 3 0) 45 4 0) 45 5 0)).2.1 := hZ
  have hZ : zE_S7 ((zw_pI (zw_pI (zw_pI (zw_pI (zw_pI (zw_pI (zw_pR S 45 0 46) 45 1 0) 45 2 0) 45 3 0) 45 4 0) 45 5 0) 45 6 0)).2.1 := hZ
  have hZ : zE_S7 ((zw_pI (zw_pI (zw_pI (zw_pI (zw_pI (zw_pI (zw_pI (zw_pR S 45 0 46) 45 1 0) 45 2 0) 45 3 0) 45 4 0) 45 5 0) 45 6 0) 45 7 0)).2.1 := hZ
  exact hZ
theorem kQ_X0_init_47 {S : aS} (hZ : zE_S7 S.2.1) : zE_S7 (kS_X0_init_47 S).2.1 := by
  unfold kS_X0_init_47
  have hZ := hZ.pR (o := 47) (j := 0) (v := 48) (by decide)
  have hZ : zE_S7 ((zw_pI (zw_pR S 47 0 48) 47 1 0)).2.1 := hZ
  have hZ : zE_S7 ((zw_pI (zw_pI (zw_pR S 47 0 48) 47 1 0) 47 2 0)).2.1 := hZ
  have hZ : zE_S7 ((zw_pI (zw_pI (zw_pI (zw_pR S 47 0 48) 47 1 0) 47 2 0) 47 3 0)).2.1 := hZ
  have hZ : zE_S7 ((zw_pI (zw_pI (zw_pI (zw_pI (zw_pR S 47 0 48) 47 1 0) 47 2 0) 47 3 0) 47 4 0)).2.1 := hZ
  have hZ : zE_S7 ((zw_pI (zw_pI (zw_pI (zw_pI (zw_pI (zw_pR S 47 0 48) 47 1 0) 47 2 0) 47 3 0) 47 4 0) 47 5 0)).2.1 := hZ
  have hZ : zE_S7 ((zw_pI (zw_pI (zw_pI (zw_pI (zw_pI (zw_pI (zw_pR S 47 0 48) 47 1 0) 47 2 0) 47 3 0) 47 4 0) 47 5 0) 47 6 0)).2.1 := hZ
  have hZ : zE_S7 ((zw_pI (zw_pI (zw_pI (zw_pI (zw_pI (zw_pI (zw_pI (zw_pR S 47 0 48) 47 1 0) 47 2 0) 47 3 0) 47 4 0) 47 5 0) 47 6 0) 47 7 0)).2.1 := hZ
  exact hZ
theorem kQ_X5_init_49 {S : aS} (hZ : zE_S7 S.2.1) : zE_S7 (kS_X5_init_49 S).2.1 := by
  unfold kS_X5_init_49
  have hZ : zE_S7 ((zw_pI S 49 0 0)).2.1 := hZ
  have hZ : zE_S7 ((zw_pI (zw_pI S 49 0 0) 49 1 0)).2.1 := hZ
  have hZ : zE_S7 ((zw_pI (zw_pI (zw_pI S 49 0 0) 49 1 0) 49 2 0)).2.1 := hZ
  exact hZ
theorem kQ_X5_init_50 {S : aS} (hZ : zE_S7 S.2.1) : zE_S7 (kS_X5_init_50 S).2.1 := by
  unfold kS_X5_init_50
  have hZ : zE_S7 ((zw_pI S 50 0 0)).2.1 := hZ
  have hZ : zE_S7 ((zw_pI (zw_pI S 50 0 0) 50 1 0)).2.1 := hZ
  have hZ : zE_S7 ((zw_pI (zw_pI (zw_pI S 50 0 0) 50 1 0) 50 2 0)).2.1 := hZ
  exact hZ
theorem kQ_X5_init_51 {S : aS} (hZ : zE_S7 S.2.1) : zE_S7 (kS_X5_init_51 S).2.1 := by
  unfold kS_X5_init_51
  have hZ : zE_S7 ((zw_pI S 51 0 0)).2.1 := hZ
  have hZ : zE_S7 ((zw_pI (zw_pI S 51 0 0) 51 1 0)).2.1 := hZ
  have hZ : zE_S7 ((zw_pI (zw_pI (zw_pI S 51 0 0) 51 1 0) 51 2 0)).2.1 := hZ
  exact hZ
theorem kQ_X5_init_52 {S : aS} (hZ : zE_S7 S.2.1) : zE_S7 (kS_X5_init_52 S).2.1 := by
  unfold kS_X5_init_52
  have hZ : zE_S7 ((zw_pI S 52 0 0)).2.1 := hZ
  have hZ : zE_S7 ((zw_pI (zw_pI S 52 0 0) 52 1 0)).2.1 := hZ
  have hZ : zE_S7 ((zw_pI (zw_pI (zw_pI S 52 0 0) 52 1 0) 52 2 0)).2.1 := hZ
  exact hZ
theorem kQ_X5_init_53 {S : aS} (hZ : zE_S7 S.2.1) : zE_S7 (kS_X5_init_53 S).2.1 := by
  unfold kS_X5_init_53
  have hZ : zE_S7 ((zw_pI S 53 0 0)).2.1 := hZ
  have hZ : zE_S7 ((zw_pI (zw_pI S 53 0 0) 53 1 0)).2.1 := hZ
  have hZ : zE_S7 ((zw_pI (zw_pI (zw_pI S 53 0 0) 53 1 0) 53 2 0)).2.1 := hZ
  exact hZ
theorem kQ_X5_init_54 {S : aS} (hZ : zE_S7 S.2.1) : zE_S7 (kS_X5_init_54 S).2.1 := by
  unfold kS_X5_init_54
  have hZ : zE_S7 ((zw_pI S 54 0 0)).2.1 := hZ
  have hZ : zE_S7 ((zw_pI (zw_pI S 54 0 0) 54 1 0)).2.1 := hZ
  have hZ : zE_S7 ((zw_pI (zw_pI (zw_pI S 54 0 0) 54 1 0) 54 2 0)).2.1 := hZ
  exact hZ
theorem kQ_X5_init_55 {S : aS} (hZ : zE_S7 S.2.1) : zE_S7 (kS_X5_init_55 S).2.1 := by
  unfold kS_X5_init_55
  have hZ : zE_S7 ((zw_pI S 55 0 0)).2.1 := hZ
  have hZ : zE_S7 ((zw_pI (zw_pI S 55 0 0) 55 1 0)).2.1 := hZ
  have hZ : zE_S7 ((zw_pI (zw_pI (zw_pI S 55 0 0) 55 1 0) 55 2 0)).2.1 := hZ
  exact hZ
theorem kQ_X5_init_56 {S : aS} (hZ : zE_S7 S.2.1) : zE_S7 (kS_X5_init_56 S).2.1 := by
  unfold kS_X5_init_56
  have hZ : zE_S7 ((zw_pI S 56 0 0)).2.1 := hZ
  have hZ : zE_S7 ((zw_pI (zw_pI S 56 0 0) 56 1 0)).2.1 := hZ
  have hZ : zE_S7 ((zw_pI (zw_pI (zw_pI S 56 0 0) 56 1 0) 56 2 0)).2.1 := hZ
  exact hZ
theorem kQ_X5_init_57 {S : aS} (hZ : zE_S7 S.2.1) : zE_S7 (kS_X5_init_57 S).2.1 := by
  unfold kS_X5_init_57
  have hZ : zE_S7 ((zw_pI S 57 0 0)).2.1 := hZ
  have hZ : zE_S7 ((zw_pI (zw_pI S 57 0 0) 57 1 0)).2.1 := hZ
  have hZ : zE_S7 ((zw_pI (zw_pI (zw_pI S 57 0 0) 57 1 0) 57 2 0)).2.1 := hZ
  exact hZ
theorem kQ_X5_init_58 {S : aS} (hZ : zE_S7 S.2.1) : zE_S7 (kS_X5_init_58 S).2.1 := by
  unfold kS_X5_init_58
  have hZ : zE_S7 ((zw_pI S 58 0 0)).2.1 := hZ
  have hZ : zE_S7 ((zw_pI (zw_pI S 58 0 0) 58 1 0)).2.1 := hZ
  have hZ : zE_S7 ((zw_pI (zw_pI (zw_pI S 58 0 0) 58 1 0) 58 2 0)).2.1 := hZ
  exact hZ
theorem kQ_X5_init_59 {S : aS} (hZ : zE_S7 S.2.1) : zE_S7 (kS_X5_init_59 S).2.1 := by
  unfold kS_X5_init_59
  have hZ : zE_S7 ((zw_pI S 59 0 0)).2.1 := hZ
  have hZ : zE_S7 ((zw_pI (zw_pI S 59 0 0) 59 1 0)).2.1 := hZ
  have hZ : zE_S7 ((zw_pI (zw_pI (zw_pI S 59 0 0) 59 1 0) 59 2 0)).2.1 := hZ
  exact hZ
theorem kQ_X5_init_60 {S : aS} (hZ : zE_S7 S.2.1) : zE_S7 (kS_X5_init_60 S).2.1 := by
  unfold kS_X5_init_60
  have hZ : zE_S7 ((zw_pI S 60 0 0)).2.1 := hZ
  have hZ : zE_S7 ((zw_pI (zw_pI S 60 0 0) 60 1 0)).2.1 := hZ
  have hZ : zE_S7 ((zw_pI (zw_pI (zw_pI S 60 0 0) 60 1 0) 60 2 0)).2.1 := hZ
  exact hZ
theorem kQ_X5_init_61 {S : aS} (hZ : zE_S7 S.2.1) : zE_S7 (kS_X5_init_61 S).2.1 := by
  unfold kS_X5_init_61
  have hZ : zE_S7 ((zw_pI S 61 0 0)).2.1 := hZ
  have hZ : zE_S7 ((zw_pI (zw_pI S 61 0 0) 61 1 0)).2.1 := hZ
  have hZ : zE_S7 ((zw_pI (zw_pI (zw_pI S 61 0 0) 61 1 0) 61 2 0)).2.1 := hZ
  exact hZ
theorem kQ_X5_init_62 {S : aS} (hZ : zE_S7 S.2.1) : zE_S7 (kS_X5_init_62 S).2.1 := by
  unfold kS_X5_init_62
  have hZ : zE_S7 ((zw_pI S 62 0 0)).2.1 := hZ
  have hZ : zE_S7 ((zw_pI (zw_pI S 62 0 0) 62 1 0)).2.1 := hZ
  have hZ : zE_S7 ((zw_pI (zw_pI (zw_pI S 62 0 0) 62 1 0) 62 2 0)).2.1 := hZ
  exact hZ
theorem kQ_X5_init_63 {S : aS} (hZ : zE_S7 S.2.1) : zE_S7 (kS_X5_init_63 S).2.1 := by
  unfold kS_X5_init_63
  have hZ : zE_S7 ((zw_pI S 63 0 0)).2.1 := hZ
  have hZ : zE_S7 ((zw_pI (zw_pI S 63 0 0) 63 1 0)).2.1 := hZ
  have hZ : zE_S7 ((zw_pI (zw_pI (zw_pI S 63 0 0) 63 1 0) 63 2 0)).2.1 := hZ
  exact hZ
theorem kQ_X5_init_64 {S : aS} (hZ : zE_S7 S.2.1) : zE_S7 (kS_X5_init_64 S).2.1 := by
  unfold kS_X5_init_64
  have hZ : zE_S7 ((zw_pI S 64 0 0)).2.1 := hZ
  have hZ : zE_S7 ((zw_pI (zw_pI S 64 0 0) 64 1 0)).2.1 := hZ
  have hZ : zE_S7 ((zw_pI (zw_pI (zw_pI S 64 0 0) 64 1 0) 64 2 0)).2.1 := hZ
  exact hZ
theorem kQ_X1_init_8 {S : aS} (hZ : zE_S7 S.2.1) : zE_S7 (kS_X1_init_8 S).2.1 := by
  unfold kS_X1_init_8
  have hZ := hZ.pR (o := 8) (j := 0) (v := 9) (by decide)
  have hZ : zE_S7 ((zw_pI (zw_pR S 8 0 9) 8 1 0)).2.1 := hZ
  have hZ := hZ.pR (o := 8) (j := 2) (v := 10) (by decide)
  have hZ : zE_S7 ((zw_pI (zw_pR (zw_pI (zw_pR S 8 0 9) 8 1 0) 8 2 10) 8 3 0)).2.1 := hZ
  have hZ := hZ.pR (o := 8) (j := 4) (v := 11) (by decide)
  have hZ : zE_S7 ((zw_pI (zw_pR (zw_pI (zw_pR (zw_pI (zw_pR S 8 0 9) 8 1 0) 8 2 10) 8 3 0) 8 4 11) 8 5 0)).2.1 := hZ
  have hZ := hZ.pR (o := 8) (j := 6) (v := 12) (by decide)
  have hZ : zE_S7 ((zw_pI (zw_pR (zw_pI (zw_pR (zw_pI (zw_pR (zw_pI (zw_pR S 8 0 9) 8 1 0) 8 2 10) 8 3 0) 8 4 11) 8 5 0) 8 6 12) 8 7 0)).2.1 := hZ
  have hZ := hZ.pR (o := 8) (j := 8) (v := 13) (by decide)
  have hZ : zE_S7 ((zw_pI (zw_pR (zw_pI (zw_pR (zw_pI (zw_pR (zw_pI (zw_pR (zw_pI (zw_pR S 8 0 9) 8 1 0) 8 2 10) 8 3 0) 8 4 11) 8 5 0) 8 6 12) 8 7 0) 8 8 13) 8 9 0)).2.1 := hZ
  have hZ := hZ.pR (o := 8) (j := 10) (v := 14) (by decide)
  have hZ : zE_S7 ((zw_pI (zw_pR (zw_pI (zw_pR (zw_pI (zw_pR (zw_pI (zw_pR (zw_pI (zw_pR (zw_pI (zw_pR S 8 0 9) 8 1 0) 8 2 10) 8 3 0) 8 4 11) 8 5 0) 8 6 12) 8 7 0) 8 8 13) 8 9 0) 8 10 14) 8 11 0)).2.1 := hZ
  have hZ := hZ.pR (o := 8) (j := 12) (v := 15) (by decide)
  have hZ := hZ.pR (o := 8) (j := 13) (v := 16) (by decide)
  have hZ : zE_S7 ((zw_pI (zw_pR (zw_pR (zw_pI (zw_pR (zw_pI (zw_pR (zw_pI (zw_pR (zw_pI (zw_pR (zw_pI (zw_pR (zw_pI (zw_pR S 8 0 9) 8 1 0) 8 2 10) 8 3 0) 8 4 11) 8 5 0) 8 6 12) 8 7 0) 8 8 13) 8 9 0) 8 10 14) 8 11 0) 8 12 15) 8 13 16) 8 14 0)).2.1 := hZ
  have hZ := kQ_X7_init_17 hZ
  have hZ := hZ.pR (o := 9) (j := 0) (v := 17) (by decide)
  have hZ := kQ_X7_init_20 hZ
  have hZ := hZ.pR (o := 9) (j := 1) (v := 20) (by decide)
  have hZ := kQ_X7_init_23 hZ
  have hZ := hZ.pR (o := 9) (j := 2) (v := 23) (by decide)
  have hZ := kQ_X7_init_26 hZ
  have hZ := hZ.pR (o := 9) (j := 3) (v := 26) (by decide)
  have hZ := kQ_X0_init_29 hZ
  have hZ := hZ.pR (o := 10) (j := 0) (v := 29) (by decide)
  have hZ := kQ_X0_init_31 hZ
  have hZ := hZ.pR (o := 10) (j := 1) (v := 31) (by decide)
  have hZ := kQ_X0_init_33 hZ
  have hZ := hZ.pR (o := 10) (j := 2) (v := 33) (by decide)
  have hZ := kQ_X0_init_35 hZ
  have hZ := hZ.pR (o := 10) (j := 3) (v := 35) (by decide)
  have hZ := kQ_X0_init_37 hZ
  have hZ := hZ.pR (o := 10) (j := 4) (v := 37) (by decide)
  have hZ := kQ_X0_init_39 hZ
  have hZ := hZ.pR (o := 10) (j := 5) (v := 39) (by decide)
  have hZ := kQ_X0_init_41 hZ
  have hZ := hZ.pR (o := 11) (j := 0) (v := 41) (by decide)
  have hZ := kQ_X0_init_43 hZ
  have hZ := hZ.pR (o := 11) (j := 1) (v := 43) (by decide)
  have hZ := kQ_X0_init_45 hZ
  have hZ := hZ.pR (o := 11) (j := 2) (v := 45) (by decide)
  have hZ := kQ_X0_init_47 hZ
  have hZ := hZ.pR (o := 11) (j := 3) (v := 47) (by decide)
  have hZ := kQ_X5_init_49 hZ
  have hZ := hZ.pR (o := 12) (j := 0) (v := 49) (by decide)
  have hZ := kQ_X5_init_50 hZ
  have hZ := hZ.pR (o := 12) (j := 1) (v := 50) (by decide)
  have hZ := kQ_X5_init_51 hZ
  have hZ := hZ.pR (o := 12) (j := 2) (v := 51) (by decide)
  have hZ := kQ_X5_init_52 hZ
  have hZ := hZ.pR (o := 12) (j := 3) (v := 52) (by decide)
  have hZ := kQ_X5_init_53 hZ
  have hZ := hZ.pR (o := 12) (j := 4) (v := 53) (by decide)
  have hZ := kQ_X5_init_54 hZ
  have hZ := hZ.pR (o := 12) (j := 5) (v := 54) (by decide)
  have hZ := kQ_X5_init_55 hZ
  have hZ := hZ.pR (o := 12) (j := 6) (v := 55) (by decide)
  have hZ := kQ_X5_init_56 hZ
  have hZ := hZ.pR (o := 12) (j := 7) (v := 56) (by decide)
  have hZ := kQ_X5_init_57 hZ
  have hZ := hZ.pR (o := 13) (j := 0) (v := 57) (by decide)
  have hZ := kQ_X5_init_58 hZ
  have hZ := hZ.pR (o := 13) (j := 1) (v := 58) (by decide)
  have hZ := kQ_X5_init_59 hZ
  have hZ := hZ.pR (o := 13) (j := 2) (v := 59) (by decide)
  have hZ := kQ_X5_init_60 hZ
  have hZ := hZ.pR (o := 13) (j := 3) (v := 60) (by decide)
  have hZ := kQ_X5_init_61 hZ
  have hZ := hZ.pR (o := 13) (j := 4) (v := 61) (by decide)
  have hZ := kQ_X5_init_62 hZ
  have hZ := hZ.pR (o := 13) (j := 5) (v := 62) (by decide)
  have hZ := kQ_X5_init_63 hZ
  have hZ := hZ.pR (o := 13) (j := 6) (v := 63) (by decide)
  have hZ := kQ_X5_init_64 hZ
  have hZ := hZ.pR (o := 13) (j := 7) (v := 64) (by decide)
  exact hZ
theorem kQ_X3_init_7 {S : aS} (hZ : zE_S7 S.2.1) : zE_S7 (kS_X3_init_7 S).2.1 := by
  unfold kS_X3_init_7
  have hZ : zE_S7 ((zw_pI S 7 0 0)).2.1 := hZ
  have hZ : zE_S7 ((zw_pI (zw_pI S 7 0 0) 7 1 (-1))).2.1 := hZ
  have hZ := kQ_X1_init_8 hZ
  have hZ := hZ.pR (o := 7) (j := 2) (v := 8) (by decide)
  have hZ : zE_S7 ((zw_pI (zw_pR (kS_X1_init_8 (zw_pI (zw_pI S 7 0 0) 7 1 (-1))) 7 2 8) 7 3 0)).2.1 := hZ
  have hZ : zE_S7 ((zw_pI (zw_pI (zw_pR (kS_X1_init_8 (zw_pI (zw_pI S 7 0 0) 7 1 (-1))) 7 2 8) 7 3 0) 7 4 0)).2.1 := hZ
  have hZ : zE_S7 ((zw_pI (zw_pI (zw_pI (zw_pR (kS_X1_init_8 (zw_pI (zw_pI S 7 0 0) 7 1 (-1))) 7 2 8) 7 3 0) 7 4 0) 7 5 (-1))).2.1 := hZ
  exact hZ
theorem kQ_X7_init_74 {S : aS} (hZ : zE_S7 S.2.1) : zE_S7 (kS_X7_init_74 S).2.1 := by
  unfold kS_X7_init_74
  have hZ := hZ.pR (o := 74) (j := 0) (v := 75) (by decide)
  have hZ := hZ.pR (o := 74) (j := 1) (v := 76) (by decide)
  have hZ : zE_S7 ((zw_pI (zw_pR (zw_pR S 74 0 75) 74 1 76) 74 2 200)).2.1 := hZ
  exact hZ
theorem kQ_X7_init_77 {S : aS} (hZ : zE_S7 S.2.1) : zE_S7 (kS_X7_init_77 S).2.1 := by
  unfold kS_X7_init_77
  have hZ := hZ.pR (o := 77) (j := 0) (v := 78) (by decide)
  have hZ := hZ.pR (o := 77) (j := 1) (v := 79) (by decide)
  have hZ : zE_S7 ((zw_pI (zw_pR (zw_pR S 77 0 78) 77 1 79) 77 2 200)).2.1 := hZ
  exact hZ
theorem kQ_X7_init_80 {S : aS} (hZ : zE_S7 S.2.1) : zE_S7 (kS_X7_init_80 S).2.1 := by
  unfold kS_X7_init_80
  have hZ := hZ.pR (o := 80) (j := 0) (v := 81) (by decide)
  have hZ := hZ.pR (o := 80) (j := 1) (v := 82) (by decide)
  have hZ : zE_S7 ((zw_pI (zw_pR (zw_pR S 80 0 81) 80 1 82) 80 2 200)).2.1 := hZ
  exact hZ
theorem kQ_X7_init_83 {S : aS} (hZ : zE_S7 S.2.1) : zE_S7 (kS_X7_init_83 S).2.1 := by
  unfold kS_X7_init_83
  have hZ := hZ.pR (o := 83) (j := 0) (v := 84) (by decide)
  have hZ := hZ.pR (o := 83) (j := 1) (v := 85) (by decide)
  have hZ : zE_S7 ((zw_pI (zw_pR (zw_pR S 83 0 84) 83 1 85) 83 2 200)).2.1 := hZ
  exact hZ
theorem kQ_X0_init_86 {S : aS} (hZ : zE_S7 S.2.1) : zE_S7 (kS_X0_init_86 S).2.1 := by
  unfold kS_X0_init_86
  have hZ := hZ.pR (o := 86) (j := 0) (v := 87) (by decide)
  have hZ : zE_S7 ((zw_pI (zw_pR S 86 0 87) 86 1 0)).2.1 := hZ
  have hZ : zE_S7 ((zw_pI (zw_pI (zw_pR S 86 0 87) 86 1 0) 86 2 0)).2.1 := hZ
  have hZ : zE_S7 ((zw_pI (zw_pI (zw_pI (zw_pR S 86 0 87) 86 1 0) 86 2 0) 86 3 0)).2.1 := hZ
  have hZ : zE_S7 ((zw_pI (zw_pI (zw_pI (zw_pI (zw_pR S 86 0 87) 86 1 0) 86 2 0) 86 3 0) 86 4 0)).2.1 := hZ
  have hZ : zE_S7 ((zw_pI (zw_pI (zw_pI (zw_pI (zw_pI (zw_pR S 86 0 87) 86 1 0) 86 2 0) 86 3 0) 86 4 0) 86 5 0)).2.1 := hZ
  have hZ : zE_S7 ((zw_pI (zw_pI (zw_pI (zw_pI (zw_pI (zw_pI (zw_pR S 86 0 87) 86 1 0) 86 2 0) 86 3 0) 86 4 0) 86 5 0) 86 6 0)).2.1 := hZ
  have hZ : zE_S7 ((zw_pI (zw_pI (zw_pI (zw_pI (zw_pI (zw_pI (zw_pI (zw_pR S 86 0 87) 86 1 0) 86 2 0) 86 3 0) 86 4 0) 86 5 0) 86 6 0) 86 7 0)).2.1 := hZ
  exact hZ
theorem kQ_X0_init_88 {S : aS} (hZ : zE_S7 S.2.1) : zE_S7 (kS_X0_init_88 S).2.1 := by
  unfold kS_X0_init_88
  have hZ := hZ.pR (o := 88) (j := 0) (v := 89) (by decide)
  have hZ : zE_S7 ((zw_pI (zw_pR S 88 0 89) 88 1 0)).2.1 := hZ
  have hZ : zE_S7 ((zw_pI (zw_pI (zw_pR S 88 0 89) 88 1 0) 88 2 0)).2.1 := hZ
  have hZ : zE_S7 ((zw_pI (zw_pI (zw_pI (zw_pR S 88 0 89) 88 1 0) 88 2 0) 88 3 0)).2.1 := hZ
  have hZ : zE_S7 ((zw_pI (zw_pI (zw_pI (zw_pI (zw_pR S 88 0 89) 88 1 0) 88 2 0) 88 3 0) 88 4 0)).2.1 := hZ
  have hZ : zE_S7 ((zw_pI (zw_pI (zw_pI (zw_pI (zw_pI (zw_pR S 88 0 89) 88 1 0) 88 2 0) 88 3 0) 88 4 0) 88 5 0)).2.1 := hZ
  have hZ : zE_S7 ((zw_pI (zw_pI (zw_pI (zw_pI (zw_pI (zw_pI (zw_pR S 88 0 89) 88 1 0) 88 2 0) 88 3 0) 88 4 0) 88 5 0) 88 6 0)).2.1 := hZ
  have hZ : zE_S7 ((zw_pI (zw_pI (zw_pI (zw_pI (zw_pI (zw_pI (zw_pI (zw_pR S 88 0 89) 88 1 0) 88 2 0) 88 3 0) 88 4 0) 88 5 0) 88 6 0) 88 7 0)).2.1 := hZ
  exact hZ
theorem kQ_X0_init_90 {S : aS} (hZ : zE_S7 S.2.1) : zE_S7 (kS_X0_init_90 S).2.1 := by
  unfold kS_X0_init_90
  have hZ := hZ.pR (o := 90) (j := 0) (v := 91) (by decide)
  have hZ : zE_S7 ((zw_pI (zw_pR S 90 0 91) 90 1 0)).2.1 := hZ
  have hZ : zE_S7 ((zw_pI (zw_pI (zw_pR S 90 0 91) 90 1 0) 90 2 0)).2.1 := hZ
  have hZ : zE_S7 ((zw_pI (zw_pI (zw_pI (zw_pR S 90 0 91) 90 1 0) 90 2 0) 90 3 0)).2.1 := hZ
  have hZ : zE_S7 ((zw_pI (zw_pI (zw_pI (zw_pI (zw_pR S 90 0 91) 90 1 0) 90 2 0) 90 3 0) 90 4 0)).2.1 := hZ
  have hZ : zE_S7 ((zw_pI (zw_pI (zw_pI (zw_pI (zw_pI (zw_pR S 90 0 91) 90 1 0) 90 2 0) 90 3 0) 90 4 0) 90 5 0)).2.1 := hZ
  have hZ : zE_S7 ((zw_pI (zw_pI (zw_pI (zw_pI (zw_pI (zw_pI (zw_pR S 90 0 91) 90 1 0) 90 2 0) 90 3 0) 90 4 0) 90 5 0) 90 6 0)).2.1 := hZ
  have hZ : zE_S7 ((zw_pI (zw_pI (zw_pI (zw_pI (zw_pI (zw_pI (zw_pI (zw_pR S 90 0 91) 90 1 0) 90 2 0) 90 3 0) 90 4 0) 90 5 0) 90 6 0) 90 7 0)).2.1 := hZ
  exact hZ
theorem kQ_X0_init_92 {S : aS} (hZ : zE_S7 S.2.1) : zE_S7 (kS_X0_init_92 S).2.1 := by
  unfold kS_X0_init_92
  have hZ := hZ.pR (o := 92) (j := 0) (v := 93) (by decide)
  have hZ : zE_S7 ((zw_pI (zw_pR S 92 0 93) 92 1 0)).2.1 := hZ
  have hZ : zE_S7 ((zw_pI (zw_pI (zw_pR S 92 0 93) 92 1 0) 92 2 0)).2.1 := hZ
  have hZ : zE_S7 ((zw_pI (zw_pI (zw_pI (zw_pR S 92 0 93) 92 1 0) 92 2 0) 92 3 0)).2.1 := hZ
  have hZ : zE_S7 ((zw_pI (zw_pI (zw_pI (zw_pI (zw_pR S 92 0 93) 92 1 0) 92 2 0) 92 3 0) 92 4 0)).2.1 := hZ
  have hZ : zE_S7 ((zw_pI (zw_pI (zw_pI (zw_pI (zw_pI (zw_pR S 92 0 93) 92 1 0) 92 2 0) 92 3 0) 92 4 0) 92 5 0)).2.1 := hZ
  have hZ : zE_S7 ((zw_pI (zw_pI (zw_pI (zw_pI (zw_pI (zw_pI (zw_pR S 92 0 93) 92 1 0) 92 2 0) 92 3 0) 92 4 0) 92 5 0) 92 6 0)).2.1 := hZ
  have hZ : zE_S7 ((zw_pI (zw_pI (zw_pI (zw_pI (zw_pI (zw_pI (zw_pI (zw_pR S 92 0 93) 92 1 0) 92 2 0) 92 3 0) 92 4 0) 92 5 0) 92 6 0) 92 7 0)).2.1 := hZ
  exact hZ
theorem kQ_X0_init_94 {S : aS} (hZ : zE_S7 S.2.1) : zE_S7 (kS_X0_init_94 S).2.1 := by
  unfold kS_X0_init_94
  have hZ := hZ.pR (o := 94) (j := 0) (v := 95) (by decide)
  have hZ : zE_S7 ((zw_pI (zw_pR S 94 0 95) 94 1 0)).2.1 := hZ
  have hZ : zE_S7 ((zw_pI (zw_pI (zw_pR S 94 0 95) 94 1 0) 94 2 0)).2.1 := hZ
  have hZ : zE_S7 ((zw_pI (zw_pI (zw_pI (zw_pR S 94 0 95) 94 1 0) 94 2 0) 94 3 0)).2.1 := hZ
  have hZ : zE_S7 ((zw_pI (zw_pI (zw_pI (zw_pI (zw_pR S 94 0 95) 94 1 0) 94 2 0) 94 3 0) 94 4 0)).2.1 := hZ
  have hZ : zE_S7 ((zw_pI (zw_pI (zw_pI (zw_pI (zw_pI (zw_pR S 94 0 95) 94 1 0) 94 2 0) 94 3 0) 94 4 0) 94 5 0)).2.1 := hZ
  have hZ : zE_S7 ((zw_pI (zw_pI (zw_pI (zw_pI (zw_pI (zw_pI (zw_pR S 94 0 95) 94 1 0) 94 2 0) 94 3 0) 94 4 0) 94 5 0) 94 6 0)).2.1 := hZ
  have hZ : zE_S7 ((zw_pI (zw_pI (zw_pI (zw_pI (zw_pI (zw_pI (zw_pI (zw_pR S 94 0 95) 94 1 0) 94 2 0) 94 3 0) 94 4 0) 94 5 0) 94 6 0) 94 7 0)).2.1 := hZ
  exact hZ
theorem kQ_X0_init_96 {S : aS} (hZ : zE_S7 S.2.1) : zE_S7 (kS_X0_init_96 S).2.1 := by
  unfold kS_X0_init_96
  have hZ := hZ.pR (o := 96) (j := 0) (v := 97) (by decide)
  have hZ : zE_S7 ((zw_pI (zw_pR S 96 0 97) 96 1 0)).2.1 := hZ
  have hZ : zE_S7 ((zw_pI (zw_pI (zw_pR S 96 0 97) 96 1 0) 96 2 0)).2.1 := hZ
  have hZ : zE_S7 ((zw_pI (zw_pI (zw_pI (zw_pR S 96 0 97) 96 1 0) 96 2 0) 96 3 0)).2.1 := hZ
  have hZ : zE_S7 ((zw_pI (zw_pI (zw_pI (zw_pI (zw_pR S 96 0 97) 96 1 0) 96 2 0) 96 3 0) 96 4 0)).2.1 := hZ
  have hZ : zE_S7 ((zw_pI (zw_pI (zw_pI (zw_pI (zw_pI (zw_pR S 96 0 97) 96 1 0) 96 2 0) 96 3 0) 96 4 0) 96 5 0)).2.1 := hZ
  have hZ : zE_S7 ((zw_pI (zw_pI (zw_pI (zw_pI (zw_pI (zw_pI (zw_pR S 96 0 97) 96 1 0) 96 2 0) 96 3 0) 96 4 0) 96 5 0) 96 6 0)).2.1 := hZ
  have hZ : zE_S7 ((zw_pI (zw_pI (zw_pI (zw_pI (zw_pI (zw_pI (zw_pI (zw_pR S 96 0 97) 96 1 0) 96 2 0) 96 3 0) 96 4 0) 96 5 0) 96 6 0) 96 7 0)).2.1 := hZ
  exact hZ
theorem kQ_X0_init_98 {S : aS} (hZ : zE_S7 S.2.1) : zE_S7 (kS_X0_init_98 S).2.1 := by
  unfold kS_X0_init_98
  have hZ := hZ.pR (o := 98) (j := 0) (v := 99) (by decide)
  have hZ : zE_S7 ((zw_pI (zw_pR S 98 0 99) 98 1 0)).2.1 := hZ
  have hZ : zE_S7 ((zw_pI (zw_pI (zw_pR S 98 0 99) 98 1 0) 98 2 0)).2.1 := hZ
  have hZ : zE_S7 ((zw_pI (zw_pI (zw_pI (zw_pR S 98 0 99) 98 1 0) 98 2 0) 98 3 0)).2.1 := hZ
  have hZ : zE_S7 ((zw_pI (zw_pI (zw_pI (zw_pI (zw_pR S 98 0 99) 98 1 0) 98 2 0) 98 3 0) 98 4 0)).2.1 := hZ
  have hZ : zE_S7 ((zw_pI (zw_pI (zw_pI (zw_pI (zw_pI (zw_pR S 98 0 99) 98 1 0) 98 2 0) 98 3 0) 98 4 0) 98 5 0)).2.1 := hZ
  have hZ : zE_S7 ((zw_pI (zw_pI (zw_pI (zw_pI (zw_pI (zw_pI (zw_pR S 98 0 99) 98 1 0) 98 2 0) 98 3 0) 98 4 0) 98 5 0) 98 6 0)).2.1 := hZ
  have hZ : zE_S7 ((zw_pI (zw_pI (zw_pI (zw_pI (zw_pI (zw_pI (zw_pI (zw_pR S 98 0 99) 98 1 0) 98 2 0) 98 3 0) 98 4 0) 98 5 0) 98 6 0) 98 7 0)).2.1 := hZ
  exact hZ
theorem kQ_X0_init_100 {S : aS} (hZ : zE_S7 S.2.1) : zE_S7 (kS_X0_init_100 S).2.1 := by
  unfold kS_X0_init_100
  have hZ := hZ.pR (o := 100) (j := 0) (v := 101) (by decide)
  have hZ : zE_S7 ((zw_pI (zw_pR S 100 0 101) 100 1 0)).2.1 := hZ
  have hZ : zE_S7 ((zw_pI (zw_pI (zw_pR S 100 0 101) 100 1 0) 100 2 0)).2.1 := hZ
  have hZ : zE_S7 ((zw_pI (zw_pI (zw_pI (zw_pR S 100 0 101) 100 1 0) 100 2 0) 100 3 0)).2.1 := hZ
  have hZ : zE_S7 ((zw_pI (zw_pI (zw_pI (zw_pI (zw_pR S 100 0 101) 100 1 0) 100 2 0) 100 3 0) 100 4 0)).2.1 := hZ
  have hZ : zE_S7 ((zw_pI (zw_pI (zw_pI (zw_pI (zw_pI (zw_pR S 100 0 101) 100 1 0) 100 2 0) 100 3 0) 100 4 0) 100 5 0)).2.1 := hZ
  have hZ : zE_S7 ((zw_pI (zw_pI (zw_pI (zw_pI (zw_pI (zw_pI (zw_pR S 100 0 101) 100 1 0) 100 2 0) 100 3 0) 100 4 0) 100 5 0) 100 6 0)).2.1 := hZ
  have hZ : zE_S7 ((zw_pI (zw_pI (zw_pI (zw_pI (zw_pI (zw_pI (zw_pI (zw_pR S 100 0 101) 100 1 0) 100 2 0) 100 3 0) 100 4 0) 100 5 0) 100 6 0) 100 7 0)).2.1 := hZ
  exact hZ
theorem kQ_X0_init_102 {S : aS} (hZ : zE_S7 S.2.1) : zE_S7 (kS_X0_init_102 S).2.1 := by
  unfold kS_X0_init_102
  have hZ := hZ.pR (o := 102) (j := 0) (v := 103) (by decide)
  have hZ : zE_S7 ((zw_pI (zw_pR S 102 0 103) 102 1 0)).2.1 := hZ
  have hZ : zE_S7 ((zw_pI (zw_pI (zw_pR S 102 0 103) 102 1 0) 102 2 0)).2.1 := hZ
  have hZ : zE_S7 ((zw_pI (zw_pI (zw_pI (zw_pR S 102 0 103) 102 1 0) 102 2 0) 102 3 0)).2.1 := hZ
  have hZ : zE_S7 ((zw_pI (zw_pI (zw_pI (zw_pI (zw_pR S 102 0 103) 102 1 0) 102 2 0) 102 3 0) 102 4 0)).2.1 := hZ
  have hZ : zE_S7 ((zw_pI (zw_pI (zw_pI (zw_pI (zw_pI (zw_pR S 102 0 103) 102 1 0) 102 2 0) 102 3 0) 102 4 0) 102 5 0)).2.1 := hZ
  have hZ : zE_S7 ((zw_pI (zw_pI (zw_pI (zw_pI (zw_pI (zw_pI (zw_pR S 102 0 103) 102 1 0) 102 2 0) 102 3 0) 102 4 0) 102 5 0) 102 6 0)).2.1 := hZ
  have hZ : zE_S7 ((zw_pI (zw_pI (zw_pI (zw_pI (zw_pI (zw_pI (zw_pI (zw_pR S 102 0 103) 102 1 0) 102 2 0) 102 3 0) 102 4 0) 102 5 0) 102 6 0) 102 7 0)).2.1 := hZ
  exact hZ
theorem kQ_X0_init_104 {S : aS} (hZ : zE_S7 S.2.1) : zE_S7 (kS_X0_init_104 S).2.1 := by
  unfold kS_X0_init_104
  have hZ := hZ.pR (o := 104) (j := 0) (v := 105) (by decide)
  have hZ : zE_S7 ((zw_pI (zw_pR S 104 0 105) 104 1 0)).2.1 := hZ
  have hZ : zE_S7 ((zw_pI (zw_pI (zw_pR S 104 0 105) 104 1 0) 104 2 0)).2.1 := hZ
  have hZ : zE_S7 ((zw_pI (zw_pI (zw_pI (zw_pR S 104 0 105) 104 1 0) 104 2 0) 104 3 0)).2.1 := hZ
  have hZ : zE_S7 ((zw_pI (zw_pI (zw_pI (zw_pI (zw_pR S 104 0 105) 104 1 0) 104 2 0) 104 3 0) 104 4 0)).2.1 := hZ
  have hZ : zE_S7 ((zw_pI (zw_pI (zw_pI (zw_pI (zw_pI (zw_pR S 104 0 105) 104 1 0) 104 2 0) 104 3 0) 104 4 0) 104 5 0)).2.1 := hZ
  have hZ : zE_S7 ((zw_pI (zw_pI (zw_pI (zw_pI (zw_pI (zw_pI (zw_pR S 104 0 105) 104 1 0) 104 2 0) 104 3 0) 104 4 0) 104 5 0) 104 6 0)).2.1 := hZ
  have hZ : zE_S7 ((zw_pI (zw_pI (zw_pI (zw_pI (zw_pI (zw_pI (zw_pI (zw_pR S 104 0 105) 104 1 0) 104 2 0) 104 3 0) 104 4 0) 104 5 0) 104 6 0) 104 7 0)).2.1 := hZ
  exact hZ
theorem kQ_X5_init_106 {S : aS} (hZ : zE_S7 S.2.1) : zE_S7 (kS_X5_init_106 S).2.1 := by
  unfold kS_X5_init_106
  have hZ : zE_S7 ((zw_pI S 106 0 0)).2.1 := hZ
  have hZ : zE_S7 ((zw_pI (zw_pI S 106 0 0) 106 1 0)).2.1 := hZ
  have hZ : zE_S7 ((zw_pI (zw_pI (zw_pI S 106 0 0) 106 1 0) 106 2 0)).2.1 := hZ
  exact hZ
theorem kQ_X5_init_107 {S : aS} (hZ : zE_S7 S.2.1) : zE_S7 (kS_X5_init_107 S).2.1 := by
  unfold kS_X5_init_107
  have hZ : zE_S7 ((zw_pI S 107 0 0)).2.1 := hZ
  have hZ : zE_S7 ((zw_pI (zw_pI S 107 0 0) 107 1 0)).2.1 := hZ
  have hZ : zE_S7 ((zw_pI (zw_pI (zw_pI S 107 0 0) 107 1 0) 107 2 0)).2.1 := hZ
  exact hZ
theorem kQ_X5_init_108 {S : aS} (hZ : zE_S7 S.2.1) : zE_S7 (kS_X5_init_108 S).2.1 := by
  unfold kS_X5_init_108
  have hZ : zE_S7 ((zw_pI S 108 0 0)).2.1 := hZ
  have hZ : zE_S7 ((zw_pI (zw_pI S 108 0 0) 108 1 0)).2.1 := hZ
  have hZ : zE_S7 ((zw_pI (zw_pI (zw_pI S 108 0 0) 108 1 0) 108 2 0)).2.1 := hZ
  exact hZ
theorem kQ_X5_init_109 {S : aS} (hZ : zE_S7 S.2.1) : zE_S7 (kS_X5_init_109 S).2.1 := by
  unfold kS_X5_init_109
  have hZ : zE_S7 ((zw_pI S 109 0 0)).2.1 := hZ
  have hZ : zE_S7 ((zw_pI (zw_pI S 109 0 0) 109 1 0)).2.1 := hZ
  have hZ : zE_S7 ((zw_pI (zw_pI (zw_pI S 109 0 0) 109 1 0) 109 2 0)).2.1 := hZ
  exact hZ
theorem kQ_X5_init_110 {S : aS} (hZ : zE_S7 S.2.1) : zE_S7 (kS_X5_init_110 S).2.1 := by
  unfold kS_X5_init_110
  have hZ : zE_S7 ((zw_pI S 110 0 0)).2.1 := hZ
  have hZ : zE_S7 ((zw_pI (zw_pI S 110 0 0) 110 1 0)).2.1 := hZ
  have hZ : zE_S7 ((zw_pI (zw_pI (zw_pI S 110 0 0) 110 1 0) 110 2 0)).2.1 := hZ
  exact hZ
theorem kQ_X5_init_111 {S : aS} (hZ : zE_S7 S.2.1) : zE_S7 (kS_X5_init_111 S).2.1 := by
  unfold kS_X5_init_111
  have hZ : zE_S7 ((zw_pI S 111 0 0)).2.1 := hZ
  have hZ : zE_S7 ((zw_pI (zw_pI S 111 0 0) 111 1 0)).2.1 := hZ
  have hZ : zE_S7 ((zw_pI (zw_pI (zw_pI S 111 0 0) 111 1 0) 111 2 0)).2.1 := hZ
  exact hZ
theorem kQ_X5_init_112 {S : aS} (hZ : zE_S7 S.2.1) : zE_S7 (kS_X5_init_112 S).2.1 := by
  unfold kS_X5_init_112
  have hZ : zE_S7 ((zw_pI S 112 0 0)).2.1 := hZ
  have hZ : zE_S7 ((zw_pI (zw_pI S 112 0 0) 112 1 0)).2.1 := hZ
  have hZ : zE_S7 ((zw_pI (zw_pI (zw_pI S 112 0 0) 112 1 0) 112 2 0)).2.1 := hZ
  exact hZ
theorem kQ_X5_init_113 {S : aS} (hZ : zE_S7 S.2.1) : zE_S7 (kS_X5_init_113 S).2.1 := by
  unfold kS_X5_init_113
  have hZ : zE_S7 ((zw_pI S 113 0 0)).2.1 := hZ
  have hZ : zE_S7 ((zw_pI (zw_pI S 113 0 0) 113 1 0)).2.1 := hZ
  have hZ : zE_S7 ((zw_pI (zw_pI (zw_pI S 113 0 0) 113 1 0) 113 2 0)).2.1 := hZ
  exact hZ
theorem kQ_X5_init_114 {S : aS} (hZ : zE_S7 S.2.1) : zE_S7 (kS_X5_init_114 S).2.1 := by
  unfold kS_X5_init_114
  have hZ : zE_S7 ((zw_pI S 114 0 0)).2.1 := hZ
  have hZ : zE_S7 ((zw_pI (zw_pI S 114 0 0) 114 1 0)).2.1 := hZ
  have hZ : zE_S7 ((zw_pI (zw_pI (zw_pI S 114 0 0) 114 1 0) 114 2 0)).2.1 := hZ
  exact hZ
theorem kQ_X5_init_115 {S : aS} (hZ : zE_S7 S.2.1) : zE_S7 (kS_X5_init_115 S).2.1 := by
  unfold kS_X5_init_115
  have hZ : zE_S7 ((zw_pI S 115 0 0)).2.1 := hZ
  have hZ : zE_S7 ((zw_pI (zw_pI S 115 0 0) 115 1 0)).2.1 := hZ
  have hZ : zE_S7 ((zw_pI (zw_pI (zw_pI S 115 0 0) 115 1 0) 115 2 0)).2.1 := hZ
  exact hZ
theorem kQ_X5_init_116 {S : aS} (hZ : zE_S7 S.2.1) : zE_S7 (kS_X5_init_116 S).2.1 := by
  unfold kS_X5_init_116
  have hZ : zE_S7 ((zw_pI S 116 0 0)).2.1 := hZ
  have hZ : zE_S7 ((zw_pI (zw_pI S 116 0 0) 116 1 0)).2.1 := hZ
  have hZ : zE_S7 ((zw_pI (zw_pI (zw_pI S 116 0 0) 116 1 0) 116 2 0)).2.1 := hZ
  exact hZ
theorem kQ_X5_init_117 {S : aS} (hZ : zE_S7 S.2.1) : zE_S7 (kS_X5_init_117 S).2.1 := by
  unfold kS_X5_init_117
  have hZ : zE_S7 ((zw_pI S 117 0 0)).2.1 := hZ
  have hZ : zE_S7 ((zw_pI (zw_pI S 117 0 0) 117 1 0)).2.1 := hZ
  have hZ : zE_S7 ((zw_pI (zw_pI (zw_pI S 117 0 0) 117 1 0) 117 2 0)).2.1 := hZ
  exact hZ
theorem kQ_X5_init_118 {S : aS} (hZ : zE_S7 S.2.1) : zE_S7 (kS_X5_init_118 S).2.1 := by
  unfold kS_X5_init_118
  have hZ : zE_S7 ((zw_pI S 118 0 0)).2.1 := hZ
  have hZ : zE_S7 ((zw_pI (zw_pI S 118 0 0) 118 1 0)).2.1 := hZ
  have hZ : zE_S7 ((zw_pI (zw_pI (zw_pI S 118 0 0) 118 1 0) 118 2 0)).2.1 := hZ
  exact hZ
theorem kQ_X5_init_119 {S : aS} (hZ : zE_S7 S.2.1) : zE_S7 (kS_X5_init_119 S).2.1 := by
  unfold kS_X5_init_119
  have hZ : zE_S7 ((zw_pI S 119 0 0)).2.1 := hZ
  have hZ : zE_S7 ((zw_pI (zw_pI S 119 0 0) 119 1 0)).2.1 := hZ
  have hZ : zE_S7 ((zw_pI (zw_pI (zw_pI S 119 0 0) 119 1 0) 119 2 0)).2.1 := hZ
  exact hZ
theorem kQ_X5_init_120 {S : aS} (hZ : zE_S7 S.2.1) : zE_S7 (kS_X5_init_120 S).2.1 := by
  unfold kS_X5_init_120
  have hZ : zE_S7 ((zw_pI S 120 0 0)).2.1 := hZ
  have hZ : zE_S7 ((zw_pI (zw_pI S 120 0 0) 120 1 0)).2.1 := hZ
  have hZ : zE_S7 ((zw_pI (zw_pI (zw_pI S 120 0 0) 120 1 0) 120 2 0)).2.1 := hZ
  exact hZ
theorem kQ_X5_init_121 {S : aS} (hZ : zE_S7 S.2.1) : zE_S7 (kS_X5_init_121 S).2.1 := by
  unfold kS_X5_init_121
  have hZ : zE_S7 ((zw_pI S 121 0 0)).2.1 := hZ
  have hZ : zE_S7 ((zw_pI (zw_pI S 121 0 0) 121 1 0)).2.1 := hZ
  have hZ : zE_S7 ((zw_pI (zw_pI (zw_pI S 121 0 0) 121 1 0) 121 2 0)).2.1 := hZ
  exact hZ
theorem kQ_X1_init_65 {S : aS} (hZ : zE_S7 S.2.1) : zE_S7 (kS_X1_init_65 S).2.1 := by
  unfold kS_X1_init_65
  have hZ := hZ.pR (o := 65) (j := 0) (v := 66) (by decide)
  have hZ : zE_S7 ((zw_pI (zw_pR S 65 0 66) 65 1 0)).2.1 := hZ
  have hZ := hZ.pR (o := 65) (j := 2) (v := 67) (by decide)
  have hZ : zE_S7 ((zw_pI (zw_pR (zw_pI (zw_pR S 65 0 66) 65 1 0) 65 2 67) 65 3 0)).2.1 := hZ
  have hZ := hZ.pR (o := 65) (j := 4) (v := 68) (by decide)
  have hZ : zE_S7 ((zw_pI (zw_pR (zw_pI (zw_pR (zw_pI (zw_pR S 65 0 66) 65 1 0) 65 2 67) 65 3 0) 65 4 68) 65 5 0)).2.1 := hZ
  have hZ := hZ.pR (o := 65) (j := 6) (v := 69) (by decide)
  have hZ : zE_S7 ((zw_pI (zw_pR (zw_pI (zw_pR (zw_pI (zw_pR (zw_pI (zw_pR S 65 0 66) 65 1 0) 65 2 67) 65 3 0) 65 4 68) 65 5 0) 65 6 69) 65 7 0)).2.1 := hZ
  have hZ := hZ.pR (o := 65) (j := 8) (v := 70) (by decide)
  have hZ : zE_S7 ((zw_pI (zw_pR (zw_pI (zw_pR (zw_pI (zw_pR (zw_pI (zw_pR (zw_pI (zw_pR S 65 0 66) 65 1 0) 65 2 67) 65 3 0) 65 4 68) 65 5 0) 65 6 69) 65 7 0) 65 8 70) 65 9 0)).2.1 := hZ
  have hZ := hZ.pR (o := 65) (j := 10) (v := 71) (by decide)
  have hZ : zE_S7 ((zw_pI (zw_pR (zw_pI (zw_pR (zw_pI (zw_pR (zw_pI (zw_pR (zw_pI (zw_pR (zw_pI (zw_pR S 65 0 66) 65 1 0) 65 2 67) 65 3 0) 65 4 68) 65 5 0) 65 6 69) 65 7 0) 65 8 70) 65 9 0) 65 10 71) 65 11 0)).2.1 := hZ
  have hZ := hZ.pR (o := 65) (j := 12) (v := 72) (by decide)
  have hZ := hZ.pR (o := 65) (j := 13) (v := 73) (by decide)
  have hZ : zE_S7 ((zw_pI (zw_pR (zw_pR (zw_pI (zw_pR (zw_pI (zw_pR (zw_pI (zw_pR (zw_pI (zw_pR (zw_pI (zw_pR (zw_pI (zw_pR S 65 0 66) 65 1 0) 65 2 67) 65 3 0) 65 4 68) 65 5 0) 65 6 69) 65 7 0) 65 8 70) 65 9 0) 65 10 71) 65 11 0) 65 12 72) 65 13 73) 65 14 0)).2.1 := hZ
  have hZ := kQ_X7_init_74 hZ
  have hZ := hZ.pR (o := 66) (j := 0) (v := 74) (by decide)
  have hZ := kQ_X7_init_77 hZ
  have hZ := hZ.pR (o := 66) (j := 1) (v := 77) (by decide)
  have hZ := kQ_X7_init_80 hZ
  have hZ := hZ.pR (o := 66) (j := 2) (v := 80) (by decide)
  have hZ := kQ_X7_init_83 hZ
  have hZ := hZ.pR (o := 66) (j := 3) (v := 83) (by decide)
  have hZ := kQ_X0_init_86 hZ
  have hZ := hZ.pR (o := 67) (j := 0) (v := 86) (by decide)
  have hZ := kQ_X0_init_88 hZ
  have hZ := hZ.pR (o := 67) (j := 1) (v := 88) (by decide)
  have hZ := kQ_X0_init_90 hZ
  have hZ := hZ.pR (o := 67) (j := 2) (v := 90) (by decide)
  have hZ := kQ_X0_init_92 hZ
  have hZ := hZ.pR (o := 67) (j := 3) (v := 92) (by decide)
  have hZ := kQ_X0_init_94 hZ
  have hZ := hZ.pR (o := 67) (j := 4) (v := 94) (by decide)
  have hZ := kQ_X0_init_96 hZ
  have hZ := hZ.pR (o := 67) (j := 5) (v := 96) (by decide)
  have hZ := kQ_X0_init_98 hZ
  have hZ := hZ.pR (o := 68) (j := 0) (v := 98) (by decide)
  have hZ := kQ_X0_init_100 hZ
  have hZ := hZ.pR (o := 68) (j := 1) (v := 100) (by decide)
  have hZ := kQ_X0_init_102 hZ
  have hZ := hZ.pR (o := 68) (j := 2) (v := 102) (by decide)
  have hZ := kQ_X0_init_104 hZ
  have hZ := hZ.pR (o := 68) (j := 3) (v := 104) (by decide)
  have hZ := kQ_X5_init_106 hZ
  have hZ := hZ.pR (o := 69) (j := 0) (v := 106) (by decide)
  have hZ := kQ_X5_init_107 hZ
  have hZ := hZ.pR (o := 69) (j := 1) (v := 107) (by decide)
  have hZ := kQ_X5_init_108 hZ
  have hZ := hZ.pR (o := 69) (j := 2) (v := 108) (by decide)
  have hZ := kQ_X5_init_109 hZ
  have hZ := hZ.pR (o := 69) (j := 3) (v := 109) (by decide)
  have hZ := kQ_X5_init_110 hZ
  have hZ := hZ.pR (o := 69) (j := 4) (v := 110) (by decide)
  have hZ := kQ_X5_init_111 hZ
  have hZ := hZ.pR (o := 69) (j := 5) (v := 111) (by decide)
  have hZ := kQ_X5_init_112 hZ
  have hZ := hZ.pR (o := 69) (j := 6) (v := 112) (by decide)
  have hZ := kQ_X5_init_113 hZ
  have hZ := hZ.pR (o := 69) (j := 7) (v := 113) (by decide)
  have hZ := kQ_X5_init_114 hZ
  have hZ := hZ.pR (o := 70) (j := 0) (v := 114) (by decide)
  have hZ := kQ_X5_init_115 hZ
  have hZ := hZ.pR (o := 70) (j := 1) (v := 115) (by decide)
  have hZ := kQ_X5_init_116 hZ
  have hZ := hZ.pR (o := 70) (j := 2) (v := 116) (by decide)
  have hZ := kQ_X5_init_117 hZ
  have hZ := hZ.pR (o := 70) (j := 3) (v := 117) (by decide)
  have hZ := kQ_X5_init_118 hZ
  have hZ := hZ.pR (o := 70) (j := 4) (v := 118) (by decide)
  have hZ := kQ_X5_init_119 hZ
  have hZ := hZ.pR (o := 70) (j := 5) (v := 119) (by decide)
  have hZ := kQ_X5_init_120 hZ
  have hZ := hZ.pR (o := 70) (j := 6) (v := 120) (by decide)
  have hZ := kQ_X5_init_121 hZ
  have hZ := hZ.pR (o := 70) (j := 7) (v := 121) (by decide)
  exact hZ
theorem kQ_X2_init_122 {S : aS} (hZ : zE_S7 S.2.1) : zE_S7 (kS_X2_init_122 S).2.1 := by
  unfold kS_X2_init_122
  have hZ := hZ.pR (o := 122) (j := 0) (v := 123) (by decide)
  have hZ : zE_S7 ((zw_pI (zw_pR S 122 0 123) 122 1 0)).2.1 := hZ
  have hZ := hZ.pR (o := 122) (j := 2) (v := 124) (by decide)
  have hZ := hZ.pR (o := 122) (j := 3) (v := 125) (by decide)
  have hZ : zE_S7 ((zw_pI (zw_pR (zw_pR (zw_pI (zw_pR S 122 0 123) 122 1 0) 122 2 124) 122 3 125) 122 4 0)).2.1 := hZ
  have hZ : zE_S7 ((zw_pI (zw_pI (zw_pR (zw_pR (zw_pI (zw_pR S 122 0 123) 122 1 0) 122 2 124) 122 3 125) 122 4 0) 122 5 0)).2.1 := hZ
  have hZ : zE_S7 ((zw_pI (zw_pI (zw_pI (zw_pR (zw_pR (zw_pI (zw_pR S 122 0 123) 122 1 0) 122 2 124) 122 3 125) 122 4 0) 122 5 0) 122 6 0)).2.1 := hZ
  have hZ : zE_S7 ((zw_pI (zw_pI (zw_pI (zw_pI (zw_pR (zw_pR (zw_pI (zw_pR S 122 0 123) 122 1 0) 122 2 124) 122 3 125) 122 4 0) 122 5 0) 122 6 0) 122 7 0)).2.1 := hZ
  have hZ : zE_S7 ((zw_pI (zw_pI (zw_pI (zw_pI (zw_pI (zw_pR (zw_pR (zw_pI (zw_pR S 122 0 123) 122 1 0) 122 2 124) 122 3 125) 122 4 0) 122 5 0) 122 6 0) 122 7 0) 122 8 0)).2.1 := hZ
  have hZ : zE_S7 ((zw_pI (zw_pI (zw_pI (zw_pI (zw_pI (zw_pI (zw_pR (zw_pR (zw_pI (zw_pR S 122 0 123) 122 1 0) 122 2 124) 122 3 125) 122 4 0) 122 5 0) 122 6 0) 122 7 0) 122 8 0) 122 9 0)).2.1 := hZ
  have hZ : zE_S7 ((zw_pI (zw_pI (zw_pI (zw_pI (zw_pI (zw_pI (zw_pI (zw_pR (zw_pR (zw_pI (zw_pR S 122 0 123) 122 1 0) 122 2 124) 122 3 125) 122 4 0) 122 5 0) 122 6 0) 122 7 0) 122 8 0) 122 9 0) 122 10 0)).2.1 := hZ
  have hZ : zE_S7 ((zw_pI (zw_pI (zw_pI (zw_pI (zw_pI (zw_pI (zw_pI (zw_pI (zw_pR (zw_pR (zw_pI (zw_pR S 122 0 123) 122 1 0) 122 2 124) 122 3 125) 122 4 0) 122 5 0) 122 6 0) 122 7 0) 122 8 0) 122 9 0) 122 10 0) 122 11 0)).2.1 := hZ
  exact hZ
theorem kQ_X2_init_128 {S : aS} (hZ : zE_S7 S.2.1) : zE_S7 (kS_X2_init_128 S).2.1 := by
  unfold kS_X2_init_128
  have hZ := hZ.pR (o := 128) (j := 0) (v := 129) (by decide)
  have hZ : zE_S7 ((zw_pI (zw_pR S 128 0 129) 128 1 0)).2.1 := hZ
  have hZ := hZ.pR (o := 128) (j := 2) (v := 130) (by decide)
  have hZ := hZ.pR (o := 128) (j := 3) (v := 131) (by decide)
  have hZ : zE_S7 ((zw_pI (zw_pR (zw_pR (zw_pI (zw_pR S 128 0 129) 128 1 0) 128 2 130) 128 3 131) 128 4 0)).2.1 := hZ
  have hZ : zE_S7 ((zw_pI (zw_pI (zw_pR (zw_pR (zw_pI (zw_pR S 128 0 129) 128 1 0) 128 2 130) 128 3 131) 128 4 0) 128 5 0)).2.1 := hZ
  have hZ : zE_S7 ((zw_pI (zw_pI (zw_pI (zw_pR (zw_pR (zw_pI (zw_pR S 128 0 129) 128 1 0) 128 2 130) 128 3 131) 128 4 0) 128 5 0) 128 6 0)).2.1 := hZ
  have hZ : zE_S7 ((zw_pI (zw_pI (zw_pI (zw_pI (zw_pR (zw_pR (zw_pI (zw_pR S 128 0 129) 128 1 0) 128 2 130) 128 3 131) 128 4 0) 128 5 0) 128 6 0) 128 7 0)).2.1 := hZ
  have hZ : zE_S7 ((zw_pI (zw_pI (zw_pI (zw_pI (zw_pI (zw_pR (zw_pR (zw_pI (zw_pR S 128 0 129) 128 1 0) 128 2 130) 128 3 131) 128 4 0) 128 5 0) 128 6 0) 128 7 0) 128 8 0)).2.1 := hZ
  have hZ : zE_S7 ((zw_pI (zw_pI (zw_pI (zw_pI (zw_pI (zw_pI (zw_pR (zw_pR (zw_pI (zw_pR S 128 0 129) 128 1 0) 128 2 130) 128 3 131) 128 4 0) 128 5 0) 128 6 0) 128 7 0) 128 8 0) 128 9 0)).2.1 := hZ
  have hZ : zE_S7 ((zw_pI (zw_pI (zw_pI (zw_pI (zw_pI (zw_pI (zw_pI (zw_pR (zw_pR (zw_pI (zw_pR S 128 0 129) 128 1 0) 128 2 130) 128 3 131) 128 4 0) 128 5 0) 128 6 0) 128 7 0) 128 8 0) 128 9 0) 128 10 0)).2.1 := hZ
  have hZ : zE_S7 ((zw_pI (zw_pI (zw_pI (zw_pI (zw_pI (zw_pI (zw_pI (zw_pI (zw_pR (zw_pR (zw_pI (zw_pR S 128 0 129) 128 1 0) 128 2 130) 128 3 131) 128 4 0) 128 5 0) 128 6 0) 128 7 0) 128 8 0) 128 9 0) 128 10 0) 128 11 0)).2.1 := hZ
  exact hZ
theorem kQ_X6_init_126 {S : aS} (hZ : zE_S7 S.2.1) : zE_S7 (kS_X6_init_126 S).2.1 := by
  unfold kS_X6_init_126
  have hZ := hZ.pR (o := 126) (j := 0) (v := 127) (by decide)
  have hZ := kQ_X2_init_128 hZ
  have hZ := hZ.pR (o := 126) (j := 1) (v := 128) (by decide)
  have hZ : zE_S7 ((zw_pI (zw_pR (kS_X2_init_128 (zw_pR S 126 0 127)) 126 1 128) 126 2 0)).2.1 := hZ
  have hZ : zE_S7 ((zw_pI (zw_pI (zw_pR (kS_X2_init_128 (zw_pR S 126 0 127)) 126 1 128) 126 2 0) 126 3 0)).2.1 := hZ
  have hZ : zE_S7 ((zw_pI (zw_pI (zw_pI (zw_pR (kS_X2_init_128 (zw_pR S 126 0 127)) 126 1 128) 126 2 0) 126 3 0) 126 4 0)).2.1 := hZ
  have hZ : zE_S7 ((zw_pI (zw_pI (zw_pI (zw_pI (zw_pR (kS_X2_init_128 (zw_pR S 126 0 127)) 126 1 128) 126 2 0) 126 3 0) 126 4 0) 126 5 0)).2.1 := hZ
  have hZ : zE_S7 ((zw_pI (zw_pI (zw_pI (zw_pI (zw_pI (zw_pR (kS_X2_init_128 (zw_pR S 126 0 127)) 126 1 128) 126 2 0) 126 3 0) 126 4 0) 126 5 0) 126 6 0)).2.1 := hZ
  have hZ : zE_S7 ((zw_pI (zw_pI (zw_pI (zw_pI (zw_pI (zw_pI (zw_pR (kS_X2_init_128 (zw_pR S 126 0 127)) 126 1 128) 126 2 0) 126 3 0) 126 4 0) 126 5 0) 126 6 0) 126 7 0)).2.1 := hZ
  have hZ : zE_S7 ((zw_pI (zw_pI (zw_pI (zw_pI (zw_pI (zw_pI (zw_pI (zw_pR (kS_X2_init_128 (zw_pR S 126 0 127)) 126 1 128) 126 2 0) 126 3 0) 126 4 0) 126 5 0) 126 6 0) 126 7 0) 126 8 1)).2.1 := hZ
  have hZ : zE_S7 ((zw_pI (zw_pI (zw_pI (zw_pI (zw_pI (zw_pI (zw_pI (zw_pI (zw_pR (kS_X2_init_128 (zw_pR S 126 0 127)) 126 1 128) 126 2 0) 126 3 0) 126 4 0) 126 5 0) 126 6 0) 126 7 0) 126 8 1) 126 9 0)).2.1 := hZ
  exact hZ
theorem kQ_X2_init_134 {S : aS} (hZ : zE_S7 S.2.1) : zE_S7 (kS_X2_init_134 S).2.1 := by
  unfold kS_X2_init_134
  have hZ := hZ.pR (o := 134) (j := 0) (v := 135) (by decide)
  have hZ : zE_S7 ((zw_pI (zw_pR S 134 0 135) 134 1 0)).2.1 := hZ
  have hZ := hZ.pR (o := 134) (j := 2) (v := 136) (by decide)
  have hZ := hZ.pR (o := 134) (j := 3) (v := 137) (by decide)
  have hZ : zE_S7 ((zw_pI (zw_pR (zw_pR (zw_pI (zw_pR S 134 0 135) 134 1 0) 134 2 136) 134 3 137) 134 4 0)).2.1 := hZ
  have hZ : zE_S7 ((zw_pI (zw_pI (zw_pR (zw_pR (zw_pI (zw_pR S 134 0 135) 134 1 0) 134 2 136) 134 3 137) 134 4 0) 134 5 0)).2.1 := hZ
  have hZ : zE_S7 ((zw_pI (zw_pI (zw_pI (zw_pR (zw_pR (zw_pI (zw_pR S 134 0 135) 134 1 0) 134 2 136) 134 3 137) 134 4 0) 134 5 0) 134 6 0)).2.1 := hZ
  have hZ : zE_S7 ((zw_pI (zw_pI (zw_pI (zw_pI (zw_pR (zw_pR (zw_pI (zw_pR S 134 0 135) 134 1 0) 134 2 136) 134 3 137) 134 4 0) 134 5 0) 134 6 0) 134 7 0)).2.1 := hZ
  have hZ : zE_S7 ((zw_pI (zw_pI (zw_pI (zw_pI (zw_pI (zw_pR (zw_pR (zw_pI (zw_pR S 134 0 135) 134 1 0) 134 2 136) 134 3 137) 134 4 0) 134 5 0) 134 6 0) 134 7 0) 134 8 0)).2.1 := hZ
  have hZ : zE_S7 ((zw_pI (zw_pI (zw_pI (zw_pI (zw_pI (zw_pI (zw_pR (zw_pR (zw_pI (zw_pR S 134 0 135) 134 1 0) 134 2 136) 134 3 137) 134 4 0) 134 5 0) 134 6 0) 134 7 0) 134 8 0) 134 9 0)).2.1 := hZ
  have hZ : zE_S7 ((zw_pI (zw_pI (zw_pI (zw_pI (zw_pI (zw_pI (zw_pI (zw_pR (zw_pR (zw_pI (zw_pR S 134 0 135) 134 1 0) 134 2 136) 134 3 137) 134 4 0) 134 5 0) 134 6 0) 134 7 0) 134 8 0) 134 9 0) 134 10 0)).2.1 := hZ
  have hZ : zE_S7 ((zw_pI (zw_pI (zw_pI (zw_pI (zw_pI (zw_pI (zw_pI (zw_pI (zw_pR (zw_pR (zw_pI (zw_pR S 134 0 135) 134 1 0) 134 2 136) 134 3 137) 134 4 0) 134 5 0) 134 6 0) 134 7 0) 134 8 0) 134 9 0) 134 10 0) 134 11 0)).2.1 := hZ
  exact hZ
theorem kQ_X6_init_132 {S : aS} (hZ : zE_S7 S.2.1) : zE_S7 (kS_X6_init_132 S).2.1 := by
  unfold kS_X6_init_132
  have hZ := hZ.pR (o := 132) (j := 0) (v := 133) (by decide)
  have hZ := kQ_X2_init_134 hZ
  have hZ := hZ.pR (o := 132) (j := 1) (v := 134) (by decide)
  have hZ : zE_S7 ((zw_pI (zw_pR (kS_X2_init_134 (zw_pR S 132 0 133)) 132 1 134) 132 2 0)).2.1 := hZ
  have hZ : zE_S7 ((zw_pI (zw_pI (zw_pR (kS_X2_init_134 (zw_pR S 132 0 133)) 132 1 134) 132 2 0) 132 3 0)).2.1 := hZ
  have hZ : zE_S7 ((zw_pI (zw_pI (zw_pI (zw_pR (kS_X2_init_134 (zw_pR S 132 0 133)) 132 1 134) 132 2 0) 132 3 0) 132 4 0)).2.1 := hZ
  have hZ : zE_S7 ((zw_pI (zw_pI (zw_pI (zw_pI (zw_pR (kS_X2_init_134 (zw_pR S 132 0 133)) 132 1 134) 132 2 0) 132 3 0) 132 4 0) 132 5 0)).2.1 := hZ
  have hZ : zE_S7 ((zw_pI (zw_pI (zw_pI (zw_pI (zw_pI (zw_pR (kS_X2_init_134 (zw_pR S 132 0 133)) 132 1 134) 132 2 0) 132 3 0) 132 4 0) 132 5 0) 132 6 0)).2.1 := hZ
  have hZ : zE_S7 ((zw_pI (zw_pI (zw_pI (zw_pI (zw_pI (zw_pI (zw_pR (kS_X2_init_134 (zw_pR S 132 0 133)) 132 1 134) 132 2 0) 132 3 0) 132 4 0) 132 5 0) 132 6 0) 132 7 0)).2.1 := hZ
  have hZ : zE_S7 ((zw_pI (zw_pI (zw_pI (zw_pI (zw_pI (zw_pI (zw_pI (zw_pR (kS_X2_init_134 (zw_pR S 132 0 133)) 132 1 134) 132 2 0) 132 3 0) 132 4 0) 132 5 0) 132 6 0) 132 7 0) 132 8 1)).2.1 := hZ
  have hZ : zE_S7 ((zw_pI (zw_pI (zw_pI (zw_pI (zw_pI (zw_pI (zw_pI (zw_pI (zw_pR (kS_X2_init_134 (zw_pR S 132 0 133)) 132 1 134) 132 2 0) 132 3 0) 132 4 0) 132 5 0) 132 6 0) 132 7 0) 132 8 1) 132 9 0)).2.1 := hZ
  exact hZ
theorem kQ_X4_init_138 {S : aS} (hZ : zE_S7 S.2.1) : zE_S7 (kS_X4_init_138 S).2.1 := by
  unfold kS_X4_init_138
  have hZ := hZ.pR (o := 138) (j := 0) (v := 139) (by decide)
  have hZ : zE_S7 ((zw_pI (zw_pR S 138 0 139) 138 1 0)).2.1 := hZ
  have hZ : zE_S7 ((zw_pI (zw_pI (zw_pR S 138 0 139) 138 1 0) 138 2 0)).2.1 := hZ
  exact hZ
theorem kQ_X9_init_142 {S : aS} (hZ : zE_S7 S.2.1) : zE_S7 (kS_X9_init_142 S).2.1 := by
  unfold kS_X9_init_142
  have hZ : zE_S7 ((zw_pI S 142 0 0)).2.1 := hZ
  have hZ := hZ.pR (o := 142) (j := 1) (v := 143) (by decide)
  have hZ := hZ.pR (o := 142) (j := 2) (v := 144) (by decide)
  have hZ := hZ.pR (o := 142) (j := 3) (v := 145) (by decide)
  have hZ := hZ.pR (o := 142) (j := 4) (v := 146) (by decide)
  exact hZ
theorem kQ_X10_init_1 {S : aS} (hZ : zE_S7 S.2.1) : zE_S7 (kS_X10_init_1 S).2.1 := by
  unfold kS_X10_init_1
  have hZ := kQ_X8_init_2 hZ
  have hZ := hZ.pR (o := 1) (j := 0) (v := 2) (by decide)
  have hZ := kQ_X3_init_7 hZ
  have hZ := hZ.pR (o := 1) (j := 1) (v := 7) (by decide)
  have hZ := kQ_X1_init_65 hZ
  have hZ := hZ.pR (o := 1) (j := 2) (v := 65) (by decide)
  have hZ := kQ_X2_init_122 hZ
  have hZ := hZ.pR (o := 1) (j := 3) (v := 122) (by decide)
  have hZ : zE_S7 ((zw_pI (zw_pR (kS_X2_init_122 (zw_pR (kS_X1_init_65 (zw_pR (kS_X3_init_7 (zw_pR (kS_X8_init_2 S) 1 0 2)) 1 1 7)) 1 2 65)) 1 3 122) 1 4 0)).2.1 := hZ
  have hZ := kQ_X6_init_126 hZ
  have hZ := hZ.pR (o := 1) (j := 5) (v := 126) (by decide)
  have hZ : zE_S7 ((zw_pI (zw_pR (kS_X6_init_126 (zw_pI (zw_pR (kS_X2_init_122 (zw_pR (kS_X1_init_65 (zw_pR (kS_X3_init_7 (zw_pR (kS_X8_init_2 S) 1 0 2)) 1 1 7)) 1 2 65)) 1 3 122) 1 4 0)) 1 5 126) 1 6 0)).2.1 := hZ
  have hZ := kQ_X6_init_132 hZ
  have hZ := hZ.pR (o := 1) (j := 7) (v := 132) (by decide)
  have hZ := kQ_X4_init_138 hZ
  have hZ := hZ.pR (o := 1) (j := 8) (v := 138) (by decide)
  have hZ := hZ.pR (o := 1) (j := 9) (v := 140) (by decide)
  have hZ : zE_S7 ((zw_pI (zw_pR (zw_pR (kS_X4_init_138 (zw_pR (kS_X6_init_132 (zw_pI (zw_pR (kS_X6_init_126 (zw_pI (zw_pR (kS_X2_init_122 (zw_pR (kS_X1_init_65 (zw_pR (kS_X3_init_7 (zw_pR (kS_X8_init_2 S) 1 0 2)) 1 1 7)) 1 2 65)) 1 3 122) 1 4 0)) 1 5 126) 1 6 0)) 1 7 132)) 1 8 138) 1 9 140) 141 0 (-1))).2.1 := hZ
  have hZ : zE_S7 ((zw_pI (zw_pI (zw_pR (zw_pR (kS_X4_init_138 (zw_pR (kS_X6_init_132 (zw_pI (zw_pR (kS_X6_init_126 (zw_pI (zw_pR (kS_X2_init_122 (zw_pR (kS_X1_init_65 (zw_pR (kS_X3_init_7 (zw_pR (kS_X8_init_2 S) 1 0 2)) 1 1 7)) 1 2 65)) 1 3 122) 1 4 0)) 1 5 126) 1 6 0)) 1 7 132)) 1 8 138) 1 9 140) 141 0 (-1)) 141 1 (-1))).2.1 := hZ
  have hZ : zE_S7 ((zw_pI (zw_pI (zw_pI (zw_pR (zw_pR (kS_X4_init_138 (zw_pR (kS_X6_init_132 (zw_pI (zw_pR (kS_X6_init_126 (zw_pI (zw_pR (kS_X2_init_122 (zw_pR (kS_X1_init_65 (zw_pR (kS_X3_init_7 (zw_pR (kS_X8_init_2 S) 1 0 2)) 1 1 7)) 1 2 65)) 1 3 122) 1 4 0)) 1 5 126) 1 6 0)) 1 7 132)) 1 8 138) 1 9 140) 141 0 (-1)) 141 1 (-1)) 141 2 (-1))).2.1 := hZ
  have hZ : zE_S7 ((zw_pI (zw_pI (zw_pI (zw_pI (zw_pR (zw_pR (kS_X4_init_138 (zw_pR (kS_X6_init_132 (zw_pI (zw_pR (kS_X6_init_126 (zw_pI (zw_pR (kS_X2_init_122 (zw_pR (kS_X1_init_65 (zw_pR (kS_X3_init_7 (zw_pR (kS_X8_init_2 S) 1 0 2)) 1 1 7)) 1 2 65)) 1 3 122) 1 4 0)) 1 5 126) 1 6 0)) 1 7 132)) 1 8 138) 1 9 140) 141 0 (-1)) 141 1 (-1)) 141 2 (-1)) 141 3 (-1))).2.1 := hZ
  have hZ : zE_S7 ((zw_pI (zw_pI (zw_pI (zw_pI (zw_pI (zw_pR (zw_pR (kS_X4_init_138 (zw_pR (kS_X6_init_132 (zw_pI (zw_pR (kS_X6_init_126 (zw_pI (zw_pR (kS_X2_init_122 (zw_pR (kS_X1_init_65 (zw_pR (kS_X3_init_7 (zw_pR (kS_X8_init_2 S) 1 0 2)) 1 1 7)) 1 2 65)) 1 3 122) 1 4 0)) 1 5 126) 1 6 0)) 1 7 132)) 1 8 138) 1 9 140) 141 0 (-1)) 141 1 (-1)) 141 2 (-1)) 141 3 (-1)) 141 4 (-1))).2.1 := hZ
  have hZ : zE_S7 ((zw_pI (zw_pI (zw_pI (zw_pI (zw_pI (zw_pI (zw_pR (zw_pR (kS_X4_init_138 (zw_pR (kS_X6_init_132 (zw_pI (zw_pR (kS_X6_init_126 (zw_pI (zw_pR (kS_X2_init_122 (zw_pR (kS_X1_init_65 (zw_pR (kS_X3_init_7 (zw_pR (kS_X8_init_2 S) 1 0 2)) 1 1 7)) 1 2 65)) 1 3 122) 1 4 0)) 1 5 126) 1 6 0)) 1 7 132)) 1 8 138) 1 9 140) 141 0 (-1)) 141 1 (-1)) 141 2 (-1)) 141 3 (-1)) 141 4 (-1)) 141 5 (-1))).2.1 := hZ
  have hZ : zE_S7 ((zw_pI (zw_pI (zw_pI (zw_pI (zw_pI (zw_pI (zw_pI (zw_pR (zw_pR (kS_X4_init_138 (zw_pR (kS_X6_init_132 (zw_pI (zw_pR (kS_X6_init_126 (zw_pI (zw_pR (kS_X2_init_122 (zw_pR (kS_X1_init_65 (zw_pR (kS_X3_init_7 (zw_pR (kS_X8_init_2 S) 1 0 2)) 1 1 7)) 1 2 65)) 1 3 122) 1 4 0)) 1 5 126) 1 6 0)) 1 7 132)) 1 8 138) 1 9 140) 141 0 (-1)) 141 1 (-1)) 141 2 (-1)) 141 3 (-1)) 141 4 (-1)) 141 5 (-1)) 141 6 (-1))).2.1 := hZ
  have hZ := hZ.pR (o := 1) (j := 10) (v := 141) (by decide)
  have hZ := kQ_X9_init_142 hZ
  have hZ := hZ.pR (o := 1) (j := 11) (v := 142) (by decide)
  have hZ := hZ.pR (o := 1) (j := 12) (v := 147) (by decide)
  have hZ : zE_S7 ((zw_lamps (zw_pR (zw_pR (kS_X9_init_142 (zw_pR (zw_pI (zw_pI (zw_pI (zw_pI (zw_pI (zw_pI (zw_pI (zw_pR (zw_pR (kS_X4_init_138 (zw_pR (kS_X6_init_132 (zw_pI (zw_pR (kS_X6_init_126 (zw_pI (zw_pR (kS_X2_init_122 (zw_pR (kS_X1_init_65 (zw_pR (kS_X3_init_7 (zw_pR (kS_X8_init_2 S) 1 0 2)) 1 1 7)) 1 2 65)) 1 3 122) 1 4 0)) 1 5 126) 1 6 0)) 1 7 132)) 1 8 138) 1 9 140) 141 0 (-1)) 141 1 (-1)) 141 2 (-1)) 141 3 (-1)) 141 4 (-1)) 141 5 (-1)) 141 6 (-1)) 1 10 141)) 1 11 142) 1 12 147) 132 1000 0 0)).2.1 := hZ
  have hZ : zE_S7 ((zw_fill (zw_lamps (zw_pR (zw_pR (kS_X9_init_142 (zw_pR (zw_pI (zw_pI (zw_pI (zw_pI (zw_pI (zw_pI (zw_pI (zw_pR (zw_pR (kS_X4_init_138 (zw_pR (kS_X6_init_132 (zw_pI (zw_pR (kS_X6_init_126 (zw_pI (zw_pR (kS_X2_init_122 (zw_pR (kS_X1_init_65 (zw_pR (kS_X3_init_7 (zw_pR (kS_X8_init_2 S) 1 0 2)) 1 1 7)) 1 2 65)) 1 3 122) 1 4 0)) 1 5 126) 1 6 0)) 1 7 132)) 1 8 138) 1 9 140) 141 0 (-1)) 141 1 (-1)) 141 2 (-1)) 141 3 (-1)) 141 4 (-1)) 141 5 (-1)) 141 6 (-1)) 1 10 141)) 1 11 142) 1 12 147) 132 1000 0 0) 147 (-1) 96)).2.1 := hZ
  exact hZ
theorem kQ_X11_init_148 {S : aS} (hZ : zE_S7 S.2.1) : zE_S7 (kS_X11_init_148 S).2.1 := by
  unfold kS_X11_init_148
  have hZ := hZ.pR (o := 148) (j := 1) (v := 149) (by decide)
  have hZ := hZ.pR (o := 148) (j := 3) (v := 150) (by decide)
  have hZ := hZ.pR (o := 148) (j := 5) (v := 151) (by decide)
  have hZ := hZ.pR (o := 148) (j := 6) (v := 152) (by decide)
  have hZ := hZ.pR (o := 148) (j := 7) (v := 153) (by decide)
  have hZ := hZ.pR (o := 148) (j := 8) (v := 154) (by decide)
  have hZ := hZ.pR (o := 148) (j := 9) (v := 155) (by decide)
  have hZ : zE_S7 ((zw_pI (zw_pR (zw_pR (zw_pR (zw_pR (zw_pR (zw_pR (zw_pR S 148 1 149) 148 3 150) 148 5 151) 148 6 152) 148 7 153) 148 8 154) 148 9 155) 148 17 (-1))).2.1 := hZ
  have hZ := hZ.pR (o := 148) (j := 20) (v := 156) (by decide)
  have hZ := hZ.pR (o := 148) (j := 21) (v := 157) (by decide)
  have hZ := hZ.pR (o := 148) (j := 22) (v := 158) (by decide)
  have hZ := hZ.pR (o := 148) (j := 23) (v := 159) (by decide)
  have hZ := hZ.pR (o := 148) (j := 24) (v := 160) (by decide)
  have hZ := hZ.pR (o := 148) (j := 25) (v := 161) (by decide)
  have hZ := hZ.pR (o := 148) (j := 26) (v := 162) (by decide)
  have hZ := hZ.pR (o := 148) (j := 27) (v := 163) (by decide)
  have hZ := hZ.pR (o := 148) (j := 28) (v := 164) (by decide)
  have hZ := hZ.pR (o := 148) (j := 29) (v := 165) (by decide)
  have hZ := hZ.pR (o := 148) (j := 30) (v := 166) (by decide)
  have hZ := hZ.pR (o := 148) (j := 31) (v := 167) (by decide)
  have hZ := hZ.pR (o := 148) (j := 32) (v := 168) (by decide)
  have hZ := hZ.pR (o := 148) (j := 33) (v := 169) (by decide)
  have hZ := hZ.pR (o := 148) (j := 34) (v := 170) (by decide)
  have hZ := hZ.pR (o := 148) (j := 35) (v := 171) (by decide)
  have hZ := hZ.pR (o := 148) (j := 36) (v := 172) (by decide)
  have hZ := hZ.pR (o := 148) (j := 38) (v := 173) (by decide)
  have hZ := hZ.pR (o := 148) (j := 39) (v := 174) (by decide)
  have hZ := hZ.pR (o := 148) (j := 40) (v := 175) (by decide)
  have hZ := hZ.pR (o := 148) (j := 41) (v := 176) (by decide)
  have hZ := hZ.pR (o := 148) (j := 42) (v := 177) (by decide)
  have hZ := hZ.pR (o := 148) (j := 43) (v := 178) (by decide)
  have hZ := hZ.pR (o := 148) (j := 45) (v := 179) (by decide)
  have hZ := hZ.pR (o := 148) (j := 46) (v := 180) (by decide)
  have hZ := hZ.pR (o := 148) (j := 47) (v := 181) (by decide)
  have hZ := hZ.pR (o := 148) (j := 49) (v := 182) (by decide)
  have hZ := hZ.pR (o := 148) (j := 50) (v := 183) (by decide)
  have hZ := hZ.pR (o := 148) (j := 52) (v := 184) (by decide)
  have hZ := hZ.pR (o := 148) (j := 53) (v := 185) (by decide)
  have hZ := hZ.pR (o := 148) (j := 60) (v := 186) (by decide)
  have hZ := hZ.pR (o := 148) (j := 63) (v := 187) (by decide)
  have hZ := hZ.pR (o := 148) (j := 64) (v := 188) (by decide)
  have hZ := hZ.pR (o := 148) (j := 67) (v := 189) (by decide)
  have hZ := hZ.pR (o := 148) (j := 68) (v := 190) (by decide)
  have hZ := hZ.pR (o := 148) (j := 69) (v := 191) (by decide)
  have hZ := hZ.pR (o := 148) (j := 71) (v := 192) (by decide)
  have hZ := hZ.pR (o := 148) (j := 72) (v := 193) (by decide)
  have hZ := hZ.pR (o := 148) (j := 73) (v := 194) (by decide)
  have hZ := hZ.pR (o := 148) (j := 74) (v := 195) (by decide)
  have hZ := hZ.pR (o := 148) (j := 76) (v := 196) (by decide)
  have hZ := hZ.pR (o := 148) (j := 77) (v := 197) (by decide)
  have hZ := hZ.pR (o := 148) (j := 78) (v := 198) (by decide)
  have hZ := hZ.pR (o := 148) (j := 79) (v := 199) (by decide)
  have hZ : zE_S7 ((zw_pJ (zw_pR (zw_pR (zw_pR (zw_pR (zw_pR (zw_pR (zw_pR (zw_pR (zw_pR (zw_pR (zw_pR (zw_pR (zw_pR (zw_pR (zw_pR (zw_pR (zw_pR (zw_pR (zw_pR (zw_pR (zw_pR (zw_pR (zw_pR (zw_pR (zw_pR (zw_pR (zw_pR (zw_pR (zw_pR (zw_pR (zw_pR (zw_pR (zw_pR (zw_pR (zw_pR (zw_pR (zw_pR (zw_pR (zw_pR (zw_pR (zw_pR (zw_pR (zw_pR (zw_pR (zw_pI (zw_pR (zw_pR (zw_pR (zw_pR (zw_pR (zw_pR (zw_pR S 148 1 149) 148 3 150) 148 5 151) 148 6 152) 148 7 153) 148 8 154) 148 9 155) 148 17 (-1)) 148 20 156) 148 21 157) 148 22 158) 148 23 159) 148 24 160) 148 25 161) 148 26 162) 148 27 163) 148 28 164) 148 29 165) 148 30 166) 148 31 167) 148 32 168) 148 33 169) 148 34 170) 148 35 171) 148 36 172) 148 38 173) 148 39 174) 148 40 175) 148 41 176) 148 42 177) 148 43 178) 148 45 179) 148 46 180) 148 47 181) 148 49 182) 148 50 183) 148 52 184) 148 53 185) 148 60 186) 148 63 187) 148 64 188) 148 67 189) 148 68 190) 148 69 191) 148 71 192) 148 72 193) 148 73 194) 148 74 195) 148 76 196) 148 77 197) 148 78 198) 148 79 199) 155 0 10506516)).2.1 := hZ
  have hZ : zE_S7 ((zw_pJ (zw_pJ (zw_pR (zw_pR (zw_pR (zw_pR (zw_pR (zw_pR (zw_pR (zw_pR (zw_pR (zw_pR (zw_pR (zw_pR (zw_pR (zw_pR (zw_pR (zw_pR (zw_pR (zw_pR (zw_pR (zw_pR (zw_pR (zw_pR (zw_pR (zw_pR (zw_pR (zw_pR (zw_pR (zw_pR (zw_pR (zw_pR (zw_pR (zw_pR (zw_pR (zw_pR (zw_pR (zw_pR (zw_pR (zw_pR (zw_pR (zw_pR (zw_pR (zw_pR (zw_pR (zw_pR (zw_pI (zw_pR (zw_pR (zw_pR (zw_pR (zw_pR (zw_pR (zw_pR S 148 1 149) 148 3 150) 148 5 151) 148 6 152) 148 7 153) 148 8 154) 148 9 155) 148 17 (-1)) 148 20 156) 148 21 157) 148 22 158) 148 23 159) 148 24 160) 148 25 161) 148 26 162) 148 27 163) 148 28 164) 148 29 165) 148 30 166) 148 31 167) 148 32 168) 148 33 169) 148 34 170) 148 35 171) 148 36 172) 148 38 173) 148 39 174) 148 40 175) 148 41 176) 148 42 177) 148 43 178) 148 45 179) 148 46 180) 148 47 181) 148 49 182) 148 50 183) 148 52 184) 148 53 185) 148 60 186) 148 63 187) 148 64 188) 148 67 189) 148 68 190) 148 69 191) 148 71 192) 148 72 193) 148 73 194) 148 74 195) 148 76 196) 148 77 197) 148 78 198) 148 79 199) 155 0 10506516) 155 1 2774)).2.1 := hZ
  have hZ : zE_S7 ((zw_pJ (zw_pJ (zw_pJ (zw_pR (zw_pR (zw_pR (zw_pR (zw_pR (zw_pR (zw_pR (zw_pR (zw_pR (zw_pR (zw_pR (zw_pR (zw_pR (zw_pR (zw_pR (zw_pR (zw_pR (zw_pR (zw_pR (zw_pR (zw_pR (zw_pR (zw_pR (zw_pR (zw_pR (zw_pR (zw_pR (zw_pR (zw_pR (zw_pR (zw_pR (zw_pR (zw_pR (zw_pR (zw_pR (zw_pR (zw_pR (zw_pR (zw_pR (zw_pR (zw_pR (zw_pR (zw_pR (zw_pR (zw_pI (zw_pR (zw_pR (zw_pR (zw_pR (zw_pR (zw_pR (zw_pR S 148 1 149) 148 3 150) 148 5 151) 148 6 152) 148 7 153) 148 8 154) 148 9 155) 148 17 (-1)) 148 20 156) 148 21 157) 148 22 158) 148 23 159) 148 24 160) 148 25 161) 148 26 162) 148 27 163) 148 28 164) 148 29 165) 148 30 166) 148 31 167) 148 32 168) 148 33 169) 148 34 170) 148 35 171) 148 36 172) 148 38 173) 148 39 174) 148 40 175) 148 41 176) 148 42 177) 148 43 178) 148 45 179) 148 46 180) 148 47 181) 148 49 182) 148 50 183) 148 52 184) 148 53 185) 148 60 186) 148 63 187) 148 64 188) 148 67 189) 148 68 190) 148 69 191) 148 71 192) 148 72 193) 148 73 194) 148 74 195) 148 76 196) 148 77 197) 148 78 198) 148 79 199) 155 0 10506516) 155 1 2774) 155 2 9876689)).2.1 := hZ
  have hZ : zE_S7 ((zw_pJ (zw_pJ (zw_pJ (zw_pJ (zw_pR (zw_pR (zw_pR (zw_pR (zw_pR (zw_pR (zw_pR (zw_pR (zw_pR (zw_pR (zw_pR (zw_pR (zw_pR (zw_pR (zw_pR (zw_pR (zw_pR (zw_pR (zw_pR (zw_pR (zw_pR (zw_pR (zw_pR (zw_pR (zw_pR (zw_pR (zw_pR (zw_pR (zw_pR (zw_pR (zw_pR (zw_pR (zw_pR (zw_pR (zw_pR (zw_pR (zw_pR (zw_pR (zw_pR (zw_pR (zw_pR (zw_pR (zw_pR (zw_pR (zw_pI (zw_pR (zw_pR (zw_pR (zw_pR (zw_pR (zw_pR (zw_pR S 148 1 149) 148 3 150) 148 5 151) 148 6 152) 148 7 153) 148 8 154) 148 9 155) 148 17 (-1)) 148 20 156) 148 21 157) 148 22 158) 148 23 159) 148 24 160) 148 25 161) 148 26 162) 148 27 163) 148 28 164) 148 29 165) 148 30 166) 148 31 167) 148 32 168) 148 33 169) 148 34 170) 148 35 171) 148 36 172) 148 38 173) 148 39 174) 148 40 175) 148 41 176) 148 42 177) 148 43 178) 148 45 179) 148 46 180) 148 47 181) 148 49 182) 148 50 183) 148 52 184) 148 53 185) 148 60 186) 148 63 187) 148 64 188) 148 67 189) 148 68 190) 148 69 191) 148 71 192) 148 72 193) 148 73 194) 148 74 195) 148 76 196) 148 77 197) 148 78 198) 148 79 199) 155 0 10506516) 155 1 2774) 155 2 9876689) 155 3 4075223)).2.1 := hZ
  have hZ : zE_S7 ((zw_pJ (zw_pJ (zw_pJ (zw_pJ (zw_pJ (zw_pR (zw_pR (zw_pR (zw_pR (zw_pR (zw_pR (zw_pR (zw_pR (zw_pR (zw_pR (zw_pR (zw_pR (zw_pR (zw_pR (zw_pR (zw_pR (zw_pR (zw_pR (zw_pR (zw_pR (zw_pR (zw_pR (zw_pR (zw_pR (zw_pR (zw_pR (zw_pR (zw_pR (zw_pR (zw_pR (zw_pR (zw_pR (zw_pR (zw_pR (zw_pR (zw_pR (zw_pR (zw_pR (zw_pR (zw_pR (zw_pR (zw_pR (zw_pR (zw_pR (zw_pI (zw_pR (zw_pR (zw_pR (zw_pR (zw_pR (zw_pR (zw_pR S 148 1 149) 148 3 150) 148 5 151) 148 6 152) 148 7 153) 148 8 154) 148 9 155) 148 17 (-1)) 148 20 156) 148 21 157) 148 22 158) 148 23 159) 148 24 160) 148 25 161) 148 26 162) 148 27 163) 148 28 164) 148 29 165) 148 30 166) 148 31 167) 148 32 168) 148 33 169) 148 34 170) 148 35 171) 148 36 172) 148 38 173) 148 39 174) 148 40 175) 148 41 176) 148 42 177) 148 43 178) 148 45 179) 148 46 180) 148 47 181) 148 49 182) 148 50 183) 148 52 184) 148 53 185) 148 60 186) 148 63 187) 148 64 188) 148 67 189) 148 68 190) 148 69 191) 148 71 192) 148 72 193) 148 73 194) 148 74 195) 148 76 196) 148 77 197) 148 78 198) 148 79 199) 155 0 10506516) 155 1 2774) 155 2 9876689) 155 3 4075223) 155 4 8863997)).2.1 := hZ
  have hZ : zE_S7 ((zw_pJ (zw_pJ (zw_pJ (zw_pJ (zw_pJ (zw_pJ (zw_pR (zw_pR (zw_pR (zw_pR (zw_pR (zw_pR (zw_pR (zw_pR (zw_pR (zw_pR (zw_pR (zw_pR (zw_pR (zw_pR (zw_pR (zw_pR (zw_pR (zw_pR (zw_pR (zw_pR (zw_pR (zw_pR (zw_pR (zw_pR (zw_pR (zw_pR (zw_pR (zw_pR (zw_pR (zw_pR (zw_pR (zw_pR (zw_pR (zw_pR (zw_pR (zw_pR (zw_pR (zw_pR (zw_pR (zw_pR (zw_pR (zw_pR (zw_pR (zw_pR (zw_pI (zw_pR (zw_pR (zw_pR (zw_pR (zw_pR (zw_pR (zw_pR S 148 1 149) 148 3 150) 148 5 151) 148 6 152) 148 7 153) 148 8 154) 148 9 155) 148 17 (-1)) 148 20 156) 148 21 157) 148 22 158) 148 23 159) 148 24 160) 148 25 161) 148 26 162) 148 27 163) 148 28 164) 148 29 165) 148 30 166) 148 31 167) 148 32 168) 148 33 169) 148 34 170) 148 35 171) 148 36 172) 148 38 173) 148 39 174) 148 40 175) 148 41 176) 148 42 177) 148 43 178) 148 45 179) 148 46 180) 148 47 181) 148 49 182) 148 50 183) 148 52 184) 148 53 185) 148 60 186) 148 63 187) 148 64 188) 148 67 189) 148 68 190) 148 69 191) 148 71 192) 148 72 193) 148 73 194) 148 74 195) 148 76 196) 148 77 197) 148 78 198) 148 79 199) 155 0 10506516) 155 1 2774) 155 2 9876689) 155 3 4075223) 155 4 8863997) 155 5 99703)).2.1 := hZ
  have hZ : zE_S7 ((zw_pJ (zw_pJ (zw_pJ (zw_pJ (zw_pJ (zw_pJ (zw_pJ (zw_pR (zw_pR (zw_pR (zw_pR (zw_pR (zw_pR (zw_pR (zw_pR (zw_pR (zw_pR (zw_pR (zw_pR (zw_pR (zw_pR (zw_pR (zw_pR (zw_pR (zw_pR (zw_pR (zw_pR (zw_pR (zw_pR (zw_pR (zw_pR (zw_pR (zw_pR (zw_pR (zw_pR (zw_pR (zw_pR (zw_pR (zw_pR (zw_pR (zw_pR (zw_pR (zw_pR (zw_pR (zw_pR (zw_pR (zw_pR (zw_pR (zw_pR (zw_pR (zw_pR (zw_pI (zw_pR (zw_pR (zw_pR (zw_pR (zw_pR (zw_pR (zw_pR S 148 1 149) 148 3 150) 148 5 151) 148 6 152) 148 7 153) 148 8 154) 148 9 155) 148 17 (-1)) 148 20 156) 148 21 157) 148 22 158) 148 23 159) 148 24 160) 148 25 161) 148 26 162) 148 27 163) 148 28 164) 148 29 165) 148 30 166) 148 31 167) 148 32 168) 148 33 169) 148 34 170) 148 35 171) 148 36 172) 148 38 173) 148 39 174) 148 40 175) 148 41 176) 148 42 177) 148 43 178) 148 45 179) 148 46 180) 148 47 181) 148 49 182) 148 50 183) 148 52 184) 148 53 185) 148 60 186) 148 63 187) 148 64 188) 148 67 189) 148 68 190) 148 69 191) 148 71 192) 148 72 193) 148 73 194) 148 74 195) 148 76 196) 148 77 197) 148 78 198) 148 79 199) 155 0 10506516) 155 1 2774) 155 2 9876689) 155 3 4075223) 155 4 8863997) 155 5 99703) 155 6 249)).2.1 := hZ
  have hZ : zE_S7 ((zw_pJ (zw_pJ (zw_pJ (zw_pJ (zw_pJ (zw_pJ (zw_pJ (zw_pJ (zw_pR (zw_pR (zw_pR (zw_pR (zw_pR (zw_pR (zw_pR (zw_pR (zw_pR (zw_pR (zw_pR (zw_pR (zw_pR (zw_pR (zw_pR (zw_pR (zw_pR (zw_pR (zw_pR (zw_pR (zw_pR (zw_pR (zw_pR (zw_pR (zw_pR (zw_pR (zw_pR (zw_pR (zw_pR (zw_pR (zw_pR (zw_pR (zw_pR (zw_pR (zw_pR (zw_pR (zw_pR (zw_pR (zw_pR (zw_pR (zw_pR (zw_pR (zw_pR (zw_pR (zw_pI (zw_pR (zw_pR (zw_pR (zw_pR (zw_pR (zw_pR (zw_pR S 148 1 149) 148 3 150) 148 5 151) 148 6 152) 148 7 153) 148 8 154) 148 9 155) 148 17 (-1)) 148 20 156) 148 21 157) 148 22 158) 148 23 159) 148 24 160) 148 25 161) 148 26 162) 148 27 163) 148 28 164) 148 29 165) 148 30 166) 148 31 167) 148 32 168) 148 33 169) 148 34 170) 148 35 171) 148 36 172) 148 38 173) 148 39 174) 148 40 175) 148 41 176) 148 42 177) 148 43 178) 148 45 179) 148 46 180) 148 47 181) 148 49 182) 148 50 183) 148 52 184) 148 53 185) 148 60 186) 148 63 187) 148 64 188) 148 67 189) 148 68 190) 148 69 191) 148 71 192) 148 72 193) 148 73 194) 148 74 195) 148 76 196) 148 77 197) 148 78 198) 148 79 199) 155 0 10506516) 155 1 2774) 155 2 9876689) 155 3 4075223) 155 4 8863997) 155 5 99703) 155 6 249) 155 7 423)).2.1 := hZ
  have hZ : zE_S7 ((zw_pJ (zw_pJ (zw_pJ (zw_pJ (zw_pJ (zw_pJ (zw_pJ (zw_pJ (zw_pJ (zw_pR (zw_pR (zw_pR (zw_pR (zw_pR (zw_pR (zw_pR (zw_pR (zw_pR (zw_pR (zw_pR (zw_pR (zw_pR (zw_pR (zw_pR (zw_pR (zw_pR (zw_pR (zw_pR (zw_pR (zw_pR (zw_pR (zw_pR (zw_pR (zw_pR (zw_pR (zw_pR (zw_pR (zw_pR (zw_pR (zw_pR (zw_pR (zw_pR (zw_pR (zw_pR (zw_pR (zw_pR (zw_pR (zw_pR (zw_pR (zw_pR (zw_pR (zw_pR (zw_pR (zw_pI (zw_pR (zw_pR (zw_pR (zw_pR (zw_pR (zw_pR (zw_pR S 148 1 149) 148 3 150) 148 5 151) 148 6 152) 148 7 153) 148 8 154) 148 9 155) 148 17 (-1)) 148 20 156) 148 21 157) 148 22 158) 148 23 159) 148 24 160) 148 25 161) 148 26 162) 148 27 163) 148 28 164) 148 29 165) 148 30 166) 148 31 167) 148 32 168) 148 33 169) 148 34 170) 148 35 171) 148 36 172) 148 38 173) 148 39 174) 148 40 175) 148 41 176) 148 42 177) 148 43 178) 148 45 179) 148 46 180) 148 47 181) 148 49 182) 148 50 183) 148 52 184) 148 53 185) 148 60 186) 148 63 187) 148 64 188) 148 67 189) 148 68 190) 148 69 191) 148 71 192) 148 72 193) 148 73 194) 148 74 195) 148 76 196) 148 77 197) 148 78 198) 148 79 199) 155 0 10506516) 155 1 2774) 155 2 9876689) 155 3 4075223) 155 4 8863997) 155 5 99703) 155 6 249) 155 7 423) 155 8 1111)).2.1 := hZ
  have hZ : zE_S7 ((zw_pJ (zw_pJ (zw_pJ (zw_pJ (zw_pJ (zw_pJ (zw_pJ (zw_pJ (zw_pJ (zw_pJ (zw_pR (zw_pR (zw_pR (zw_pR (zw_pR (zw_pR (zw_pR (zw_pR (zw_pR (zw_pR (zw_pR (zw_pR (zw_pR (zw_pR (zw_pR (zw_pR (zw_pR (zw_pR (zw_pR (zw_pR (zw_pR (zw_pR (zw_pR (zw_pR (zw_pR (zw_pR (zw_pR (zw_pR (zw_pR (zw_pR (zw_pR (zw_pR (zw_pR (zw_pR (zw_pR (zw_pR (zw_pR (zw_pR (zw_pR (zw_pR (zw_pR (zw_pR (zw_pR (zw_pR (zw_pI (zw_pR (zw_pR (zw_pR (zw_pR (zw_pR (zw_pR (zw_pR S 148 1 149) 148 3 150) 148 5 151) 148 6 152) 148 7 153) 148 8 154) 148 9 155) 148 17 (-1)) 148 20 156) 148 21 157) 148 22 158) 148 23 159) 148 24 160) 148 25 161) 148 26 162) 148 27 163) 148 28 164) 148 29 165) 148 30 166) 148 31 167) 148 32 168) 148 33 169) 148 34 170) 148 35 171) 148 36 172) 148 38 173) 148 39 174) 148 40 175) 148 41 176) 148 42 177) 148 43 178) 148 45 179) 148 46 180) 148 47 181) 148 49 182) 148 50 183) 148 52 184) 148 53 185) 148 60 186) 148 63 187) 148 64 188) 148 67 189) 148 68 190) 148 69 191) 148 71 192) 148 72 193) 148 73 194) 148 74 195) 148 76 196) 148 77 197) 148 78 198) 148 79 199) 155 0 10506516) 155 1 2774) 155 2 9876689) 155 3 4075223) 155 4 8863997) 155 5 99703) 155 6 249) 155 7 423) 155 8 1111) 155 9 10631)).2.1 := hZ
  have hZ : zE_S7 ((zw_pJ (zw_pJ (zw_pJ (zw_pJ (zw_pJ (zw_pJ (zw_pJ (zw_pJ (zw_pJ (zw_pJ (zw_pJ (zw_pR (zw_pR (zw_pR (zw_pR (zw_pR (zw_pR (zw_pR (zw_pR (zw_pR (zw_pR (zw_pR (zw_pR (zw_pR (zw_pR (zw_pR (zw_pR (zw_pR (zw_pR (zw_pR (zw_pR (zw_pR (zw_pR (zw_pR (zw_pR (zw_pR (zw_pR (zw_pR (zw_pR (zw_pR (zw_pR (zw_pR (zw_pR (zw_pR (zw_pR (zw_pR (zw_pR (zw_pR (zw_pR (zw_pR (zw_pR (zw_pR (zw_pR (zw_pR (zw_pR (zw_pI (zw_pR (zw_pR (zw_pR (zw_pR (zw_pR (zw_pR (zw_pR S 148 1 149) 148 3 150) 148 5 151) 148 6 152) 148 7 153) 148 8 154) 148 9 155) 148 17 (-1)) 148 20 156) 148 21 157) 148 22 158) 148 23 159) 148 24 160) 148 25 161) 148 26 162) 148 27 163) 148 28 164) 148 29 165) 148 30 166) 148 31 167) 148 32 168) 148 33 169) 148 34 170) 148 35 171) 148 36 172) 148 38 173) 148 39 174) 148 40 175) 148 41 176) 148 42 177) 148 43 178) 148 45 179) 148 46 180) 148 47 181) 148 49 182) 148 50 183) 148 52 184) 148 53 185) 148 60 186) 148 63 187) 148 64 188) 148 67 189) 148 68 190) 148 69 191) 148 71 192) 148 72 193) 148 73 194) 148 74 195) 148 76 196) 148 77 197) 148 78 198) 148 79 199) 155 0 10506516) 155 1 2774) 155 2 9876689) 155 3 4075223) 155 4 8863997) 155 5 99703) 155 6 249) 155 7 423) 155 8 1111) 155 9 10631) 155 10 38446238)).2.1 := hZ
  have hZ : zE_S7 ((zw_pJ (zw_pJ (zw_pJ (zw_pJ (zw_pJ (zw_pJ (zw_pJ (zw_pJ (zw_pJ (zw_pJ (zw_pJ (zw_pJ (zw_pR (zw_pR (zw_pR (zw_pR (zw_pR (zw_pR (zw_pR (zw_pR (zw_pR (zw_pR (zw_pR (zw_pR (zw_pR (zw_pR (zw_pR (zw_pR (zw_pR (zw_pR (zw_pR (zw_pR (zw_pR (zw_pR (zw_pR (zw_pR (zw_pR (zw_pR (zw_pR (zw_pR (zw_pR (zw_pR (zw_pR (zw_pR (zw_pR (zw_pR (zw_pR (zw_pR (zw_pR (zw_pR (zw_pR (zw_pR (zw_pR (zw_pR (zw_pR (zw_pR (zw_pI (zw_pR (zw_pR (zw_pR (zw_pR (zw_pR (zw_pR (zw_pR S 148 1 149) 148 3 150) 148 5 151) 148 6 152) 148 7 153) 148 8 154) 148 9 155) 148 17 (-1)) 148 20 156) 148 21 157) 148 22 158) 148 23 159) 148 24 160) 148 25 161) 148 26 162) 148 27 163) 148 28 164) 148 29 165) 148 30 166) 148 31 167) 148 32 168) 148 33 169) 148 34 170) 148 35 171) 148 36 172) 148 38 173) 148 39 174) 148 40 175) 148 41 176) 148 42 177) 148 43 178) 148 45 179) 148 46 180) 148 47 181) 148 49 182) 148 50 183) 148 52 184) 148 53 185) 148 60 186) 148 63 187) 148 64 188) 148 67 189) 148 68 190) 148 69 191) 148 71 192) 148 72 193) 148 73 194) 148 74 195) 148 76 196) 148 77 197) 148 78 198) 148 79 199) 155 0 10506516) 155 1 2774) 155 2 9876689) 155 3 4075223) 155 4 8863997) 155 5 99703) 155 6 249) 155 7 423) 155 8 1111) 155 9 10631) 155 10 38446238) 155 11 239879)).2.1 := hZ
  have hZ : zE_S7 ((zw_pJ (zw_pJ (zw_pJ (zw_pJ (zw_pJ (zw_pJ (zw_pJ (zw_pJ (zw_pJ (zw_pJ (zw_pJ (zw_pJ (zw_pJ (zw_pR (zw_pR (zw_pR (zw_pR (zw_pR (zw_pR (zw_pR (zw_pR (zw_pR (zw_pR (zw_pR (zw_pR (zw_pR (zw_pR (zw_pR (zw_pR (zw_pR (zw_pR (zw_pR (zw_pR (zw_pR (zw_pR (zw_pR (zw_pR (zw_pR (zw_pR (zw_pR (zw_pR (zw_pR (zw_pR (zw_pR (zw_pR (zw_pR (zw_pR (zw_pR (zw_pR (zw_pR (zw_pR (zw_pR (zw_pR (zw_pR (zw_pR (zw_pR (zw_pR (zw_pI (zw_pR (zw_pR (zw_pR (zw_pR (zw_pR (zw_pR (zw_pR S 148 1 149) 148 3 150) 148 5 151) 148 6 152) 148 7 153) 148 8 154) 148 9 155) 148 17 (-1)) 148 20 156) 148 21 157) 148 22 158) 148 23 159) 148 24 160) 148 25 161) 148 26 162) 148 27 163) 148 28 164) 148 29 165) 148 30 166) 148 31 167) 148 32 168) 148 33 169) 148 34 170) 148 35 171) 148 36 172) 148 38 173) 148 39 174) 148 40 175) 148 41 176) 148 42 177) 148 43 178) 148 45 179) 148 46 180) 148 47 181) 148 49 182) 148 50 183) 148 52 184) 148 53 185) 148 60 186) 148 63 187) 148 64 188) 148 67 189) 148 68 190) 148 69 191) 148 71 192) 148 72 193) 148 73 194) 148 74 195) 148 76 196) 148 77 197) 148 78 198) 148 79 199) 155 0 10506516) 155 1 2774) 155 2 9876689) 155 3 4075223) 155 4 8863997) 155 5 99703) 155 6 249) 155 7 423) 155 8 1111) 155 9 10631) 155 10 38446238) 155 11 239879) 155 12 79958)).2.1 := hZ
  have hZ : zE_S7 ((zw_pJ (zw_pJ (zw_pJ (zw_pJ (zw_pJ (zw_pJ (zw_pJ (zw_pJ (zw_pJ (zw_pJ (zw_pJ (zw_pJ (zw_pJ (zw_pJ (zw_pR (zw_pR (zw_pR (zw_pR (zw_pR (zw_pR (zw_pR (zw_pR (zw_pR (zw_pR (zw_pR (zw_pR (zw_pR (zw_pR (zw_pR (zw_pR (zw_pR (zw_pR (zw_pR (zw_pR (zw_pR (zw_pR (zw_pR (zw_pR (zw_pR (zw_pR (zw_pR (zw_pR (zw_pR (zw_pR (zw_pR (zw_pR (zw_pR (zw_pR (zw_pR (zw_pR (zw_pR (zw_pR (zw_pR (zw_pR (zw_pR (zw_pR (zw_pR (zw_pR (zw_pI (zw_pR (zw_pR (zw_pR (zw_pR (zw_pR (zw_pR (zw_pR S 148 1 149) 148 3 150) 148 5 151) 148 6 152) 148 7 153) 148 8 154) 148 9 155) 148 17 (-1)) 148 20 156) 148 21 157) 148 22 158) 148 23 159) 148 24 160) 148 25 161) 148 26 162) 148 27 163) 148 28 164) 148 29 165) 148 30 166) 148 31 167) 148 32 168) 148 33 169) 148 34 170) 148 35 171) 148 36 172) 148 38 173) 148 39 174) 148 40 175) 148 41 176) 148 42 177) 148 43 178) 148 45 179) 148 46 180) 148 47 181) 148 49 182) 148 50 183) 148 52 184) 148 53 185) 148 60 186) 148 63 187) 148 64 188) 148 67 189) 148 68 190) 148 69 191) 148 71 192) 148 72 193) 148 73 194) 148 74 195) 148 76 196) 148 77 197) 148 78 198) 148 79 199) 155 0 10506516) 155 1 2774) 155 2 9876689) 155 3 4075223) 155 4 8863997) 155 5 99703) 155 6 249) 155 7 423) 155 8 1111) 155 9 10631) 155 10 38446238) 155 11 239879) 155 12 79958) 155 13 332864552)).2.1 := hZ
  have hZ : zE_S7 ((zw_pJ (zw_pJ (zw_pJ (zw_pJ (zw_pJ (zw_pJ (zw_pJ (zw_pJ (zw_pJ (zw_pJ (zw_pJ (zw_pJ (zw_pJ (zw_pJ (zw_pJ (zw_pR (zw_pR (zw_pR (zw_pR (zw_pR (zw_pR (zw_pR (zw_pR (zw_pR (zw_pR (zw_pR (zw_pR (zw_pR (zw_pR (zw_pR (zw_pR (zw_pR (zw_pR (zw_pR (zw_pR (zw_pR (zw_pR (zw_pR (zw_pR (zw_pR (zw_pR (zw_pR (zw_pR (zw_pR (zw_pR (zw_pR (zw_pR (zw_pR (zw_pR (zw_pR (zw_pR (zw_pR (zw_pR (zw_pR (zw_pR (zw_pR (zw_pR (zw_pR (zw_pR (zw_pI (zw_pR (zw_pR (zw_pR (zw_pR (zw_pR (zw_pR (zw_pR S 148 1 149) 148 3 150) 148 5 151) 148 6 152) 148 7 153) 148 8 154) 148 9 155) 148 17 (-1)) 148 20 156) 148 21 157) 148 22 158) 148 23 159) 148 24 160) 148 25 161) 148 26 162) 148 27 163) 148 28 164) 148 29 165) 148 30 166) 148 31 167) 148 32 168) 148 33 169) 148 34 170) 148 35 171) 148 36 172) 148 38 173) 148 39 174) 148 40 175) 148 41 176) 148 42 177) 148 43 178) 148 45 179) 148 46 180) 148 47 181) 148 49 182) 148 50 183) 148 52 184) 148 53 185) 148 60 186) 148 63 187) 148 64 188) 148 67 189) 148 68 190) 148 69 191) 148 71 192) 148 72 193) 148 73 194) 148 74 195) 148 76 196) 148 77 197) 148 78 198) 148 79 199) 155 0 10506516) 155 1 2774) 155 2 9876689) 155 3 4075223) 155 4 8863997) 155 5 99703) 155 6 249) 155 7 423) 155 8 1111) 155 9 10631) 155 10 38446238) 155 11 239879) 155 12 79958) 155 13 332864552) 155 14 308881823)).2.1 := hZ
  have hZ : zE_S7 ((zw_pJ (zw_pJ (zw_pJ (zw_pJ (zw_pJ (zw_pJ (zw_pJ (zw_pJ (zw_pJ (zw_pJ (zw_pJ (zw_pJ (zw_pJ (zw_pJ (zw_pJ (zw_pJ (zw_pR (zw_pR (zw_pR (zw_pR (zw_pR (zw_pR (zw_pR (zw_pR (zw_pR (zw_pR (zw_pR (zw_pR (zw_pR (zw_pR (zw_pR (zw_pR (zw_pR (zw_pR (zw_pR (zw_pR (zw_pR (zw_pR (zw_pR (zw_pR (zw_pR (zw_pR (zw_pR (zw_pR (zw_pR (zw_pR (zw_pR (zw_pR (zw_pR (zw_pR (zw_pR (zw_pR (zw_pR (zw_pR (zw_pR (zw_pR (zw_pR (zw_pR (zw_pR (zw_pR (zw_pI (zw_pR (zw_pR (zw_pR (zw_pR (zw_pR (zw_pR (zw_pR S 148 1 149) 148 3 150) 148 5 151) 148 6 152) 148 7 153) 148 8 154) 148 9 155) 148 17 (-1)) 148 20 156) 148 21 157) 148 22 158) 148 23 159) 148 24 160) 148 25 161) 148 26 162) 148 27 163) 148 28 164) 148 29 165) 148 30 166) 148 31 167) 148 32 168) 148 33 169) 148 34 170) 148 35 171) 148 36 172) 148 38 173) 148 39 174) 148 40 175) 148 41 176) 148 42 177) 148 43 178) 148 45 179) 148 46 180) 148 47 181) 148 49 182) 148 50 183) 148 52 184) 148 53 185) 148 60 186) 148 63 187) 148 64 188) 148 67 189) 148 68 190) 148 69 191) 148 71 192) 148 72 193) 148 73 194) 148 74 195) 148 76 196) 148 77 197) 148 78 198) 148 79 199) 155 0 10506516) 155 1 2774) 155 2 9876689) 155 3 4075223) 155 4 8863997) 155 5 99703) 155 6 249) 155 7 423) 155 8 1111) 155 9 10631) 155 10 38446238) 155 11 239879) 155 12 79958) 155 13 332864552) 155 14 308881823) 155 15 3426211)).2.1 := hZ
  have hZ : zE_S7 ((zw_pJ (zw_pJ (zw_pJ (zw_pJ (zw_pJ (zw_pJ (zw_pJ (zw_pJ (zw_pJ (zw_pJ (zw_pJ (zw_pJ (zw_pJ (zw_pJ (zw_pJ (zw_pJ (zw_pJ (zw_pR (zw_pR (zw_pR (zw_pR (zw_pR (zw_pR (zw_pR (zw_pR (zw_pR (zw_pR (zw_pR (zw_pR (zw_pR (zw_pR (zw_pR (zw_pR (zw_pR (zw_pR (zw_pR (zw_pR (zw_pR (zw_pR (zw_pR (zw_pR (zw_pR (zw_pR (zw_pR (zw_pR (zw_pR (zw_pR (zw_pR (zw_pR (zw_pR (zw_pR (zw_pR (zw_pR (zw_pR (zw_pR (zw_pR (zw_pR (zw_pR (zw_pR (zw_pR (zw_pR (zw_pI (zw_pR (zw_pR (zw_pR (zw_pR (zw_pR (zw_pR (zw_pR S 148 1 149) 148 3 150) 148 5 151) 148 6 152) 148 7 153) 148 8 154) 148 9 155) 148 17 (-1)) 148 20 156) 148 21 157) 148 22 158) 148 23 159) 148 24 160) 148 25 161) 148 26 162) 148 27 163) 148 28 164) 148 29 165) 148 30 166) 148 31 167) 148 32 168) 148 33 169) 148 34 170) 148 35 171) 148 36 172) 148 38 173) 148 39 174) 148 40 175) 148 41 176) 148 42 177) 148 43 178) 148 45 179) 148 46 180) 148 47 181) 148 49 182) 148 50 183) 148 52 184) 148 53 185) 148 60 186) 148 63 187) 148 64 188) 148 67 189) 148 68 190) 148 69 191) 148 71 192) 148 72 193) 148 73 194) 148 74 195) 148 76 196) 148 77 197) 148 78 198) 148 79 199) 155 0 10506516) 155 1 2774) 155 2 9876689) 155 3 4075223) 155 4 8863997) 155 5 99703) 155 6 249) 155 7 423) 155 8 1111) 155 9 10631) 155 10 38446238) 155 11 239879) 155 12 79958) 155 13 332864552) 155 14 308881823) 155 15 3426211) 155 16 459383)).2.1 := hZ
  have hZ : zE_S7 ((zw_pJ (zw_pJ (zw_pJ (zw_pJ (zw_pJ (zw_pJ (zw_pJ (zw_pJ (zw_pJ (zw_pJ (zw_pJ (zw_pJ (zw_pJ (zw_pJ (zw_pJ (zw_pJ (zw_pJ (zw_pJ (zw_pR (zw_pR (zw_pR (zw_pR (zw_pR (zw_pR (zw_pR (zw_pR (zw_pR (zw_pR (zw_pR (zw_pR (zw_pR (zw_pR (zw_pR (zw_pR (zw_pR (zw_pR (zw_pR (zw_pR (zw_pR (zw_pR (zw_pR (zw_pR (zw_pR (zw_pR (zw_pR (zw_pR (zw_pR (zw_pR (zw_pR (zw_pR (zw_pR (zw_pR (zw_pR (zw_pR (zw_pR (zw_pR (zw_pR (zw_pR (zw_pR (zw_pR (zw_pR (zw_pR (zw_pI (zw_pR (zw_pR (zw_pR (zw_pR (zw_pR (zw_pR (zw_pR S 148 1 149) 148 3 150) 148 5 151) 148 6 152) 148 7 153) 148 8 154) 148 9 155) 148 17 (-1)) 148 20 156) 148 21 157) 148 22 158) 148 23 159) 148 24 160) 148 25 161) 148 26 162) 148 27 163) 148 28 164) 148 29 165) 148 30 166) 148 31 167) 148 32 168) 148 33 169) 148 34 170) 148 35 171) 148 36 172) 148 38 173) 148 39 174) 148 40 175) 148 41 176) 148 42 177) 148 43 178) 148 45 179) 148 46 180) 148 47 181) 148 49 182) 148 50 183) 148 52 184) 148 53 185) 148 60 186) 148 63 187) 148 64 188) 148 67 189) 148 68 190) 148 69 191) 148 71 192) 148 72 193) 148 73 194) 148 74 195) 148 76 196) 148 77 197) 148 78 198) 148 79 199) 155 0 10506516) 155 1 2774) 155 2 9876689) 155 3 4075223) 155 4 8863997) 155 5 99703) 155 6 249) 155 7 423) 155 8 1111) 155 9 10631) 155 10 38446238) 155 11 239879) 155 12 79958) 155 13 332864552) 155 14 308881823) 155 15 3426211) 155 16 459383) 155 17 51266052)).2.1 := hZ
  exact hZ
theorem zE_s7 : zE_S7 zs_S1.2.1 := kQ_X11_init_148 (kQ_X10_init_1 (fun j _ => rfl))
