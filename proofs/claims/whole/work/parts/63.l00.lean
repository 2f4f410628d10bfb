theorem law_loop {X : zw_X} {P : Option Value → aS → Prop} {Rel : aS → Prop} (hE : zE_All Rel) (hL : X.1 ≤ 4608) (hP : ∀ S, P (some (.int 1)) S) : ∀ (n i : Nat) (I : zI) (R : zR) (J : zJ), X.1 < i + 9 * n → i ≤ X.1 + 9 → Rel (I, R, J) → zw_V X M_L_law 1300 199 25592 0 P (18) 199 25592 [.ref 1012, .ref 1, .ref 148, .int (nI i)] [] (I, R, J)
  | 0, i, I, R, J, hn, hi2, hR => by
    refine zv_iload_n (pc := 18) d_L_law_18 rfl ?_
    refine zv_aload_n (pc := 19) d_L_law_19 rfl ?_
    refine zv_xlen (pc := 20) d_L_law_20 ?_
    refine zv_bipush (pc := 21) d_L_law_21 zc_b_9 ?_
    refine zv_isub (pc := 23) d_L_law_23 ?_
    refine zv_icmp_gt (pc := 24) (tg := 1113) d_L_law_24 (by decide) (fun _ => ?_) (fun q => absurd (zl_end (by omega) (by omega) hL) q)
    refine zv_iconst (pc := 1113) d_L_law_1113 zc_i_1 ?_
    exact zv_iret (pc := 1114) (ty := .boolean) d_L_law_1114 rfl (by decide +kernel) rfl (Nat.le_refl _) (hP _)
  | n + 1, i, I, R, J, hn, hi2, hR => by
    refine zv_iload_n (pc := 18) d_L_law_18 rfl ?_
    refine zv_aload_n (pc := 19) d_L_law_19 rfl ?_
    refine zv_xlen (pc := 20) d_L_law_20 ?_
    refine zv_bipush (pc := 21) d_L_law_21 zc_b_9 ?_
    refine zv_isub (pc := 23) d_L_law_23 ?_
    by_cases hi : i + 9 ≤ X.1
    · refine zv_icmp_gt (pc := 24) (tg := 1113) d_L_law_24 (by decide) (fun q => absurd q (zl_go hi hL)) (fun _ => ?_)
      have hg : ∀ I R J, Rel (I, R, J) → zw_V X M_L_law 1300 199 25592 0 P (1107) 199 25592 [.ref 1012, .ref 1, .ref 148, .int (nI i)] [] (I, R, J) := by
        intro I R J hR
        refine kx_iinc (pc := 1107) (x2 := nI (i + 9)) (L2 := [.ref 1012, .ref 1, .ref 148, .int (nI (i + 9))]) d_L_law_1107 (by decide) rfl zc_i_9 (nI_add i 9).symm rfl ?_
        refine zv_goto (pc := 1110) (tg := 18) d_L_law_1110 (by decide) ?_
        exact law_loop hE hL hP n (i + 9) I R J (by omega) (by omega) hR
      refine zv_aload_n (pc := 27) d_L_law_27 rfl ?_
      refine zv_iload_n (pc := 28) d_L_law_28 rfl ?_
      refine zv_xald (pc := 29) d_L_law_29 (zl_in0 hi hL) ?_
      refine zv_bipush (pc := 30) d_L_law_30 zc_b_31 ?_
      refine zv_iand (pc := 32) d_L_law_32 ?_
      obtain ⟨x, ex⟩ : ∃ y : Int32, y = X.2 (nI i).toNatClampNeg &&& 31 := ⟨_, rfl⟩
      rw [← ex]
      obtain ⟨e0, e1, e2, e3, e4, e5, e6, e7, e8, e9, e10, e11, e12, e13, e14, e15, e16, e17, e18, e19, e20, e21, e22, e23, e24, e25, e26⟩ := hE
      by_cases c0 : x = 0
      · refine kx_tsIn (pc := 33) (tg := 156) (z := 123) d_L_law_33 (by rw [c0]; decide +kernel) (by rw [c0]; decide +kernel) (by rw [c0]; decide +kernel) (by decide) ?_
        exact zl_feed e0 hi hL hg I R J hR
      by_cases c1 : x = 1
      · refine kx_tsIn (pc := 33) (tg := 219) (z := 186) d_L_law_33 (by rw [c1]; decide +kernel) (by rw [c1]; decide +kernel) (by rw [c1]; decide +kernel) (by decide) ?_
        exact zl_back e1 hi hL hg I R J hR
      by_cases c2 : x = 2
      · refine kx_tsIn (pc := 33) (tg := 242) (z := 209) d_L_law_33 (by rw [c2]; decide +kernel) (by rw [c2]; decide +kernel) (by rw [c2]; decide +kernel) (by decide) ?_
        exact zl_read e2 hi hL hg I R J hR
      by_cases c3 : x = 3
      · refine kx_tsIn (pc := 33) (tg := 255) (z := 222) d_L_law_33 (by rw [c3]; decide +kernel) (by rw [c3]; decide +kernel) (by rw [c3]; decide +kernel) (by decide) ?_
        exact zl_place e3 hi hL hg I R J hR
      by_cases c4 : x = 4
      · refine kx_tsIn (pc := 33) (tg := 268) (z := 235) d_L_law_33 (by rw [c4]; decide +kernel) (by rw [c4]; decide +kernel) (by rw [c4]; decide +kernel) (by decide) ?_
        exact zl_weight e4 hi hL hg I R J hR
      by_cases c5 : x = 5
      · refine kx_tsIn (pc := 33) (tg := 317) (z := 284) d_L_law_33 (by rw [c5]; decide +kernel) (by rw [c5]; decide +kernel) (by rw [c5]; decide +kernel) (by decide) ?_
        exact zl_cell e5 hi hL hg I R J hR
      by_cases c6 : x = 6
      · refine kx_tsIn (pc := 33) (tg := 386) (z := 353) d_L_law_33 (by rw [c6]; decide +kernel) (by rw [c6]; decide +kernel) (by rw [c6]; decide +kernel) (by decide) ?_
        exact zl_even e6 hi hL hg I R J hR
      by_cases c7 : x = 7
      · refine kx_tsIn (pc := 33) (tg := 409) (z := 376) d_L_law_33 (by rw [c7]; decide +kernel) (by rw [c7]; decide +kernel) (by rw [c7]; decide +kernel) (by decide) ?_
        exact zl_ray e7 hi hL hg I R J hR
      by_cases c8 : x = 8
      · refine kx_tsIn (pc := 33) (tg := 484) (z := 451) d_L_law_33 (by rw [c8]; decide +kernel) (by rw [c8]; decide +kernel) (by rw [c8]; decide +kernel) (by decide) ?_
        exact zl_step e8 hi hL hg I R J hR
      by_cases c9 : x = 9
      · refine kx_tsIn (pc := 33) (tg := 507) (z := 474) d_L_law_33 (by rw [c9]; decide +kernel) (by rw [c9]; decide +kernel) (by rw [c9]; decide +kernel) (by decide) ?_
        exact zl_spark e9 hi hL hg I R J hR
      by_cases c10 : x = 10
      · refine kx_tsIn (pc := 33) (tg := 530) (z := 497) d_L_law_33 (by rw [c10]; decide +kernel) (by rw [c10]; decide +kernel) (by rw [c10]; decide +kernel) (by decide) ?_
        exact zl_shine e10 hi hL hg I R J hR
      by_cases c11 : x = 11
      · refine kx_tsIn (pc := 33) (tg := 629) (z := 596) d_L_law_33 (by rw [c11]; decide +kernel) (by rw [c11]; decide +kernel) (by rw [c11]; decide +kernel) (by decide) ?_
        exact zl_seen e11 hi hL hg I R J hR
      by_cases c12 : x = 12
      · refine kx_tsIn (pc := 33) (tg := 652) (z := 619) d_L_law_33 (by rw [c12]; decide +kernel) (by rw [c12]; decide +kernel) (by rw [c12]; decide +kernel) (by decide) ?_
        exact zl_column e12 hi hL hg I R J hR
      by_cases c13 : x = 13
      · refine kx_tsIn (pc := 33) (tg := 675) (z := 642) d_L_law_33 (by rw [c13]; decide +kernel) (by rw [c13]; decide +kernel) (by rw [c13]; decide +kernel) (by decide) ?_
        exact zl_grade e13 hi hL hg I R J hR
      by_cases c14 : x = 14
      · refine kx_tsIn (pc := 33) (tg := 688) (z := 655) d_L_law_33 (by rw [c14]; decide +kernel) (by rw [c14]; decide +kernel) (by rw [c14]; decide +kernel) (by decide) ?_
        exact zl_price e14 hi hL hg I R J hR
      by_cases c15 : x = 15
      · refine kx_tsIn (pc := 33) (tg := 701) (z := 668) d_L_law_33 (by rw [c15]; decide +kernel) (by rw [c15]; decide +kernel) (by rw [c15]; decide +kernel) (by decide) ?_
        exact zl_fits e15 hi hL hg I R J hR
      by_cases c16 : x = 16
      · refine kx_tsIn (pc := 33) (tg := 754) (z := 721) d_L_law_33 (by rw [c16]; decide +kernel) (by rw [c16]; decide +kernel) (by rw [c16]; decide +kernel) (by decide) ?_
        exact zl_places e16 hi hL hg I R J hR
      by_cases c17 : x = 17
      · refine kx_tsIn (pc := 33) (tg := 787) (z := 754) d_L_law_33 (by rw [c17]; decide +kernel) (by rw [c17]; decide +kernel) (by rw [c17]; decide +kernel) (by decide) ?_
        exact zl_dearest e17 hi hL hg I R J hR
      by_cases c18 : x = 18
      · refine kx_tsIn (pc := 33) (tg := 830) (z := 797) d_L_law_33 (by rw [c18]; decide +kernel) (by rw [c18]; decide +kernel) (by rw [c18]; decide +kernel) (by decide) ?_
        exact zl_two e18 hi hL hg I R J hR
      by_cases c19 : x = 19
      · refine kx_tsIn (pc := 33) (tg := 873) (z := 840) d_L_law_33 (by rw [c19]; decide +kernel) (by rw [c19]; decide +kernel) (by rw [c19]; decide +kernel) (by decide) ?_
        exact zl_laid e19 hi hL hg I R J hR
      by_cases c20 : x = 20
      · refine kx_tsIn (pc := 33) (tg := 896) (z := 863) d_L_law_33 (by rw [c20]; decide +kernel) (by rw [c20]; decide +kernel) (by rw [c20]; decide +kernel) (by decide) ?_
        exact zl_test e20 hi hL hg I R J hR
      by_cases c21 : x = 21
      · refine kx_tsIn (pc := 33) (tg := 939) (z := 906) d_L_law_33 (by rw [c21]; decide +kernel) (by rw [c21]; decide +kernel) (by rw [c21]; decide +kernel) (by decide) ?_
        exact zl_annul e21 hi hL hg I R J hR
      by_cases c22 : x = 22
      · refine kx_tsIn (pc := 33) (tg := 962) (z := 929) d_L_law_33 (by rw [c22]; decide +kernel) (by rw [c22]; decide +kernel) (by rw [c22]; decide +kernel) (by decide) ?_
        exact zl_bright e22 hi hL hg I R J hR
      by_cases c23 : x = 23
      · refine kx_tsIn (pc := 33) (tg := 1005) (z := 972) d_L_law_33 (by rw [c23]; decide +kernel) (by rw [c23]; decide +kernel) (by rw [c23]; decide +kernel) (by decide) ?_
        exact zl_barred e23 hi hL hg I R J hR
      by_cases c24 : x = 24
      · refine kx_tsIn (pc := 33) (tg := 1038) (z := 1005) d_L_law_33 (by rw [c24]; decide +kernel) (by rw [c24]; decide +kernel) (by rw [c24]; decide +kernel) (by decide) ?_
        exact zl_left e24 hi hL hg I R J hR
      by_cases c25 : x = 25
      · refine kx_tsIn (pc := 33) (tg := 1061) (z := 1028) d_L_law_33 (by rw [c25]; decide +kernel) (by rw [c25]; decide +kernel) (by rw [c25]; decide +kernel) (by decide) ?_
        exact zl_next e25 hi hL hg I R J hR
      by_cases c26 : x = 26
      · refine kx_tsIn (pc := 33) (tg := 1084) (z := 1051) d_L_law_33 (by rw [c26]; decide +kernel) (by rw [c26]; decide +kernel) (by rw [c26]; decide +kernel) (by decide) ?_
        exact zl_count e26 hi hL hg I R J hR
      refine kx_tsOut (pc := 33) (tg := 1107) d_L_law_33 (by have c0 := zw_neI c0 (z := 0) (by decide +kernel); have c1 := zw_neI c1 (z := 1) (by decide +kernel); have c2 := zw_neI c2 (z := 2) (by decide +kernel); have c3 := zw_neI c3 (z := 3) (by decide +kernel); have c4 := zw_neI c4 (z := 4) (by decide +kernel); have c5 := zw_neI c5 (z := 5) (by decide +kernel); have c6 := zw_neI c6 (z := 6) (by decide +kernel); have c7 := zw_neI c7 (z := 7) (by decide +kernel); have c8 := zw_neI c8 (z := 8) (by decide +kernel); have c9 := zw_neI c9 (z := 9) (by decide +kernel); have c10 := zw_neI c10 (z := 10) (by decide +kernel); have c11 := zw_neI c11 (z := 11) (by decide +kernel); have c12 := zw_neI c12 (z := 12) (by decide +kernel); have c13 := zw_neI c13 (z := 13) (by decide +kernel); have c14 := zw_neI c14 (z := 14) (by decide +kernel); have c15 := zw_neI c15 (z := 15) (by decide +kernel); have c16 := zw_neI c16 (z := 16) (by decide +kernel); have c17 := zw_neI c17 (z := 17) (by decide +kernel); have c18 := zw_neI c18 (z := 18) (by decide +kernel); have c19 := zw_neI c19 (z := 19) (by decide +kernel); have c20 := zw_neI c20 (z := 20) (by decide +kernel); have c21 := zw_neI c21 (z := 21) (by decide +kernel); have c22 := zw_neI c22 (z := 22) (by decide +kernel); have c23 := zw_neI c23 (z := 23) (by decide +kernel); have c24 := zw_neI c24 (z := 24) (by decide +kernel); have c25 := zw_neI c25 (z := 25) (by decide +kernel); have c26 := zw_neI c26 (z := 26) (by decide +kernel); omega) (by decide) ?_
      exact hg I R J hR
    · refine zv_icmp_gt (pc := 24) (tg := 1113) d_L_law_24 (by decide) (fun _ => ?_) (fun q => absurd (zl_end hi (by omega) hL) q)
      refine zv_iconst (pc := 1113) d_L_law_1113 zc_i_1 ?_
      exact zv_iret (pc := 1114) (ty := .boolean) d_L_law_1114 rfl (by decide +kernel) rfl (Nat.le_refl _) (hP _)
