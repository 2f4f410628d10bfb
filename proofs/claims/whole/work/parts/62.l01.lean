theorem zl_price {X : zw_X} {P : Option Value → aS → Prop} {Rel : aS → Prop} (hE : zE_price Rel) {i : Nat} (hi : i + 9 ≤ X.1) (hL : X.1 ≤ 4608) (hg : ∀ I R J, Rel (I, R, J) → zw_V X M_L_law 1300 199 25592 0 P (1107) 199 25592 [.ref 1012, .ref 1, .ref 148, .int (nI i)] [] (I, R, J)) (I : zI) (R : zR) (J : zJ) (hR : Rel (I, R, J)) : zw_V X M_L_law 1300 199 25592 0 P (688) 199 25592 [.ref 1012, .ref 1, .ref 148, .int (nI i)] [] (I, R, J) := by
  obtain ⟨r, I1, I2, h1, h2, hR⟩ := hE I R J  hR
  refine zv_aload_n (pc := 688) d_L_law_688 rfl ?_
  refine zv_callV (pc := 689) (As := []) (o := 1) (st := []) (d2 := 5) (mc2 := 0) (ms2 := 0) (M2 := M_X10_price) (R2 := fun q S => q = some (.int r) ∧ S = (I1, R, J)) d_L_law_689 (zw_mG (List.mem_of_getElem? (i := 1015) (by decide +kernel)) rfl) ce_X10_price (Or.inl ⟨10, _, by decide, by decide, by decide +kernel, rfl, rfl⟩) (Nat.le_of_ble_eq_true rfl) rfl (Nat.le_of_ble_eq_true rfl) (by decide) ⟨by decide, by decide⟩ (by decide) (c_X10_price X 1  I R J _ h1 ⟨rfl, rfl⟩) ?_
  rintro _ _ ⟨rfl, rfl⟩
  show zw_V X M_L_law 1300 199 25592 0 P (689 + 3) 199 25592 [.ref 1012, .ref 1, .ref 148, .int (nI i)] [.int r] (I1, R, J)
  refine zv_aload_n (pc := 692) d_L_law_692 rfl ?_
  refine zv_callV (pc := 693) (As := []) (o := 148) (st := [.int r]) (d2 := 4) (mc2 := 0) (ms2 := 0) (M2 := M_X11_price) (R2 := fun q S => q = some (.int r) ∧ S = (I2, R, J)) d_L_law_693 (zw_mG (List.mem_of_getElem? (i := 1636) (by decide +kernel)) rfl) ce_X11_price (Or.inl ⟨11, _, by decide, by decide, by decide +kernel, rfl, rfl⟩) (Nat.le_of_ble_eq_true rfl) rfl (Nat.le_of_ble_eq_true rfl) (by decide) ⟨by decide, by decide⟩ (by decide) (c_X11_price X 148  I1 R J _ h2 ⟨rfl, rfl⟩) ?_
  rintro _ _ ⟨rfl, rfl⟩
  show zw_V X M_L_law 1300 199 25592 0 P (693 + 3) 199 25592 [.ref 1012, .ref 1, .ref 148, .int (nI i)] [.int r, .int r] (I2, R, J)
  refine zv_icmp_eq (pc := 696) (tg := 1107) d_L_law_696 (by decide) (fun _ => ?_) (fun q => absurd rfl q)
  exact hg I2 R J hR
theorem zl_fits {X : zw_X} {P : Option Value → aS → Prop} {Rel : aS → Prop} (hE : zE_fits Rel) {i : Nat} (hi : i + 9 ≤ X.1) (hL : X.1 ≤ 4608) (hg : ∀ I R J, Rel (I, R, J) → zw_V X M_L_law 1300 199 25592 0 P (1107) 199 25592 [.ref 1012, .ref 1, .ref 148, .int (nI i)] [] (I, R, J)) (I : zI) (R : zR) (J : zJ) (hR : Rel (I, R, J)) : zw_V X M_L_law 1300 199 25592 0 P (701) 199 25592 [.ref 1012, .ref 1, .ref 148, .int (nI i)] [] (I, R, J) := by
  obtain ⟨r, h1, h2, hR⟩ := hE I R J (X.2 (Int32.toNatClampNeg (nI i + 1))) (X.2 (Int32.toNatClampNeg (nI i + 2))) (X.2 (Int32.toNatClampNeg (nI i + 3))) (X.2 (Int32.toNatClampNeg (nI i + 4))) hR
  refine zv_aload_n (pc := 701) d_L_law_701 rfl ?_
  refine zv_aload_n (pc := 702) d_L_law_702 rfl ?_
  refine zv_iload_n (pc := 703) d_L_law_703 rfl ?_
  refine zv_iconst (pc := 704) d_L_law_704 zc_i_1 ?_
  refine zv_iadd (pc := 705) d_L_law_705 ?_
  refine zv_xald (pc := 706) d_L_law_706 (zl_in 1 rfl hi (by decide) hL) ?_
  refine zv_aload_n (pc := 707) d_L_law_707 rfl ?_
  refine zv_iload_n (pc := 708) d_L_law_708 rfl ?_
  refine zv_iconst (pc := 709) d_L_law_709 zc_i_2 ?_
  refine zv_iadd (pc := 710) d_L_law_710 ?_
  refine zv_xald (pc := 711) d_L_law_711 (zl_in 2 rfl hi (by decide) hL) ?_
  refine zv_aload_n (pc := 712) d_L_law_712 rfl ?_
  refine zv_iload_n (pc := 713) d_L_law_713 rfl ?_
  refine zv_iconst (pc := 714) d_L_law_714 zc_i_3 ?_
  refine zv_iadd (pc := 715) d_L_law_715 ?_
  refine zv_xald (pc := 716) d_L_law_716 (zl_in 3 rfl hi (by decide) hL) ?_
  refine zv_aload_n (pc := 717) d_L_law_717 rfl ?_
  refine zv_iload_n (pc := 718) d_L_law_718 rfl ?_
  refine zv_iconst (pc := 719) d_L_law_719 zc_i_4 ?_
  refine zv_iadd (pc := 720) d_L_law_720 ?_
  refine zv_xald (pc := 721) d_L_law_721 (zl_in 4 rfl hi (by decide) hL) ?_
  refine zv_callV (pc := 722) (As := [.int (X.2 (Int32.toNatClampNeg ((nI i) + 1))), .int (X.2 (Int32.toNatClampNeg ((nI i) + 2))), .int (X.2 (Int32.toNatClampNeg ((nI i) + 3))), .int (X.2 (Int32.toNatClampNeg ((nI i) + 4)))]) (o := 1) (st := []) (d2 := 2) (mc2 := 0) (ms2 := 0) (M2 := M_X10_fits) (R2 := fun q S => q = some (.int r) ∧ S = (I, R, J)) d_L_law_722 (zw_mG (List.mem_of_getElem? (i := 1030) (by decide +kernel)) rfl) ce_X10_fits (Or.inl ⟨10, _, by decide, by decide, by decide +kernel, rfl, rfl⟩) (Nat.le_of_ble_eq_true rfl) rfl (Nat.le_of_ble_eq_true rfl) (by decide) ⟨by decide, by decide⟩ (by decide) (c_X10_fits X 1 (X.2 (Int32.toNatClampNeg ((nI i) + 1))) (X.2 (Int32.toNatClampNeg ((nI i) + 2))) (X.2 (Int32.toNatClampNeg ((nI i) + 3))) (X.2 (Int32.toNatClampNeg ((nI i) + 4))) I R J _ h1 ⟨rfl, rfl⟩) ?_
  rintro _ _ ⟨rfl, rfl⟩
  show zw_V X M_L_law 1300 199 25592 0 P (722 + 3) 199 25592 [.ref 1012, .ref 1, .ref 148, .int (nI i)] [.int r] (I, R, J)
  refine zv_aload_n (pc := 725) d_L_law_725 rfl ?_
  refine zv_aload_n (pc := 726) d_L_law_726 rfl ?_
  refine zv_iload_n (pc := 727) d_L_law_727 rfl ?_
  refine zv_iconst (pc := 728) d_L_law_728 zc_i_1 ?_
  refine zv_iadd (pc := 729) d_L_law_729 ?_
  refine zv_xald (pc := 730) d_L_law_730 (zl_in 1 rfl hi (by decide) hL) ?_
  refine zv_aload_n (pc := 731) d_L_law_731 rfl ?_
  refine zv_iload_n (pc := 732) d_L_law_732 rfl ?_
  refine zv_iconst (pc := 733) d_L_law_733 zc_i_2 ?_
  refine zv_iadd (pc := 734) d_L_law_734 ?_
  refine zv_xald (pc := 735) d_L_law_735 (zl_in 2 rfl hi (by decide) hL) ?_
  refine zv_aload_n (pc := 736) d_L_law_736 rfl ?_
  refine zv_iload_n (pc := 737) d_L_law_737 rfl ?_
  refine zv_iconst (pc := 738) d_L_law_738 zc_i_3 ?_
  refine zv_iadd (pc := 739) d_L_law_739 ?_
  refine zv_xald (pc := 740) d_L_law_740 (zl_in 3 rfl hi (by decide) hL) ?_
  refine zv_aload_n (pc := 741) d_L_law_741 rfl ?_
  refine zv_iload_n (pc := 742) d_L_law_742 rfl ?_
  refine zv_iconst (pc := 743) d_L_law_743 zc_i_4 ?_
  refine zv_iadd (pc := 744) d_L_law_744 ?_
  refine zv_xald (pc := 745) d_L_law_745 (zl_in 4 rfl hi (by decide) hL) ?_
  refine zv_callV (pc := 746) (As := [.int (X.2 (Int32.toNatClampNeg ((nI i) + 1))), .int (X.2 (Int32.toNatClampNeg ((nI i) + 2))), .int (X.2 (Int32.toNatClampNeg ((nI i) + 3))), .int (X.2 (Int32.toNatClampNeg ((nI i) + 4)))]) (o := 148) (st := [.int r]) (d2 := 2) (mc2 := 0) (ms2 := 0) (M2 := M_X11_fits) (R2 := fun q S => q = some (.int r) ∧ S = (I, R, J)) d_L_law_746 (zw_mG (List.mem_of_getElem? (i := 1645) (by decide +kernel)) rfl) ce_X11_fits (Or.inl ⟨11, _, by decide, by decide, by decide +kernel, rfl, rfl⟩) (Nat.le_of_ble_eq_true rfl) rfl (Nat.le_of_ble_eq_true rfl) (by decide) ⟨by decide, by decide⟩ (by decide) (c_X11_fits X 148 (X.2 (Int32.toNatClampNeg ((nI i) + 1))) (X.2 (Int32.toNatClampNeg ((nI i) + 2))) (X.2 (Int32.toNatClampNeg ((nI i) + 3))) (X.2 (Int32.toNatClampNeg ((nI i) + 4))) I R J _ h2 ⟨rfl, rfl⟩) ?_
  rintro _ _ ⟨rfl, rfl⟩
  show zw_V X M_L_law 1300 199 25592 0 P (746 + 3) 199 25592 [.ref 1012, .ref 1, .ref 148, .int (nI i)] [.int r, .int r] (I, R, J)
  refine zv_icmp_eq (pc := 749) (tg := 1107) d_L_law_749 (by decide) (fun _ => ?_) (fun q => absurd rfl q)
  exact hg I R J hR
theorem zl_places {X : zw_X} {P : Option Value → aS → Prop} {Rel : aS → Prop} (hE : zE_places Rel) {i : Nat} (hi : i + 9 ≤ X.1) (hL : X.1 ≤ 4608) (hg : ∀ I R J, Rel (I, R, J) → zw_V X M_L_law 1300 199 25592 0 P (1107) 199 25592 [.ref 1012, .ref 1, .ref 148, .int (nI i)] [] (I, R, J)) (I : zI) (R : zR) (J : zJ) (hR : Rel (I, R, J)) : zw_V X M_L_law 1300 199 25592 0 P (754) 199 25592 [.ref 1012, .ref 1, .ref 148, .int (nI i)] [] (I, R, J) := by
  obtain ⟨r, h1, h2, hR⟩ := hE I R J (X.2 (Int32.toNatClampNeg (nI i + 1))) (X.2 (Int32.toNatClampNeg (nI i + 2))) hR
  refine zv_aload_n (pc := 754) d_L_law_754 rfl ?_
  refine zv_aload_n (pc := 755) d_L_law_755 rfl ?_
  refine zv_iload_n (pc := 756) d_L_law_756 rfl ?_
  refine zv_iconst (pc := 757) d_L_law_757 zc_i_1 ?_
  refine zv_iadd (pc := 758) d_L_law_758 ?_
  refine zv_xald (pc := 759) d_L_law_759 (zl_in 1 rfl hi (by decide) hL) ?_
  refine zv_aload_n (pc := 760) d_L_law_760 rfl ?_
  refine zv_iload_n (pc := 761) d_L_law_761 rfl ?_
  refine zv_iconst (pc := 762) d_L_law_762 zc_i_2 ?_
  refine zv_iadd (pc := 763) d_L_law_763 ?_
  refine zv_xald (pc := 764) d_L_law_764 (zl_in 2 rfl hi (by decide) hL) ?_
  refine zv_callV (pc := 765) (As := [.int (X.2 (Int32.toNatClampNeg ((nI i) + 1))), .int (X.2 (Int32.toNatClampNeg ((nI i) + 2)))]) (o := 1) (st := []) (d2 := 2) (mc2 := 0) (ms2 := 0) (M2 := M_X10_places) (R2 := fun q S => q = some (.int r) ∧ S = (I, R, J)) d_L_law_765 (zw_mG (List.mem_of_getElem? (i := 1038) (by decide +kernel)) rfl) ce_X10_places (Or.inl ⟨10, _, by decide, by decide, by decide +kernel, rfl, rfl⟩) (Nat.le_of_ble_eq_true rfl) rfl (Nat.le_of_ble_eq_true rfl) (by decide) ⟨by decide, by decide⟩ (by decide) (c_X10_places X 1 (X.2 (Int32.toNatClampNeg ((nI i) + 1))) (X.2 (Int32.toNatClampNeg ((nI i) + 2))) I R J _ h1 ⟨rfl, rfl⟩) ?_
  rintro _ _ ⟨rfl, rfl⟩
  show zw_V X M_L_law 1300 199 25592 0 P (765 + 3) 199 25592 [.ref 1012, .ref 1, .ref 148, .int (nI i)] [.int r] (I, R, J)
  refine zv_aload_n (pc := 768) d_L_law_768 rfl ?_
  refine zv_aload_n (pc := 769) d_L_law_769 rfl ?_
  refine zv_iload_n (pc := 770) d_L_law_770 rfl ?_
  refine zv_iconst (pc := 771) d_L_law_771 zc_i_1 ?_
  refine zv_iadd (pc := 772) d_L_law_772 ?_
  refine zv_xald (pc := 773) d_L_law_773 (zl_in 1 rfl hi (by decide) hL) ?_
  refine zv_aload_n (pc := 774) d_L_law_774 rfl ?_
  refine zv_iload_n (pc := 775) d_L_law_775 rfl ?_
  refine zv_iconst (pc := 776) d_L_law_776 zc_i_2 ?_
  refine zv_iadd (pc := 777) d_L_law_777 ?_
  refine zv_xald (pc := 778) d_L_law_778 (zl_in 2 rfl hi (by decide) hL) ?_
  refine zv_callV (pc := 779) (As := [.int (X.2 (Int32.toNatClampNeg ((nI i) + 1))), .int (X.2 (Int32.toNatClampNeg ((nI i) + 2)))]) (o := 148) (st := [.int r]) (d2 := 2) (mc2 := 0) (ms2 := 0) (M2 := M_X11_places) (R2 := fun q S => q = some (.int r) ∧ S = (I, R, J)) d_L_law_779 (zw_mG (List.mem_of_getElem? (i := 1653) (by decide +kernel)) rfl) ce_X11_places (Or.inl ⟨11, _, by decide, by decide, by decide +kernel, rfl, rfl⟩) (Nat.le_of_ble_eq_true rfl) rfl (Nat.le_of_ble_eq_true rfl) (by decide) ⟨by decide, by decide⟩ (by decide) (c_X11_places X 148 (X.2 (Int32.toNatClampNeg ((nI i) + 1))) (X.2 (Int32.toNatClampNeg ((nI i) + 2))) I R J _ h2 ⟨rfl, rfl⟩) ?_
  rintro _ _ ⟨rfl, rfl⟩
  show zw_V X M_L_law 1300 199 25592 0 P (779 + 3) 199 25592 [.ref 1012, .ref 1, .ref 148, .int (nI i)] [.int r, .int r] (I, R, J)
  refine zv_icmp_eq (pc := 782) (tg := 1107) d_L_law_782 (by decide) (fun _ => ?_) (fun q => absurd rfl q)
  exact hg I R J hR
theorem zl_dearest {X : zw_X} {P : Option Value → aS → Prop} {Rel : aS → Prop} (hE : zE_dearest Rel) {i : Nat} (hi : i + 9 ≤ X.1) (hL : X.1 ≤ 4608) (hg : ∀ I R J, Rel (I, R, J) → zw_V X M_L_law 1300 199 25592 0 P (1107) 199 25592 [.ref 1012, .ref 1, .ref 148, .int (nI i)] [] (I, R, J)) (I : zI) (R : zR) (J : zJ) (hR : Rel (I, R, J)) : zw_V X M_L_law 1300 199 25592 0 P (787) 199 25592 [.ref 1012, .ref 1, .ref 148, .int (nI i)] [] (I, R, J) := by
  obtain ⟨r, I1, I2, h1, h2, hR⟩ := hE I R J (X.2 (Int32.toNatClampNeg (nI i + 1))) (X.2 (Int32.toNatClampNeg (nI i + 2))) (X.2 (Int32.toNatClampNeg (nI i + 3))) hR
  refine zv_aload_n (pc := 787) d_L_law_787 rfl ?_
  refine zv_aload_n (pc := 788) d_L_law_788 rfl ?_
  refine zv_iload_n (pc := 789) d_L_law_789 rfl ?_
  refine zv_iconst (pc := 790) d_L_law_790 zc_i_1 ?_
  refine zv_iadd (pc := 791) d_L_law_791 ?_
  refine zv_xald (pc := 792) d_L_law_792 (zl_in 1 rfl hi (by decide) hL) ?_
  refine zv_aload_n (pc := 793) d_L_law_793 rfl ?_
  refine zv_iload_n (pc := 794) d_L_law_794 rfl ?_
  refine zv_iconst (pc := 795) d_L_law_795 zc_i_2 ?_
  refine zv_iadd (pc := 796) d_L_law_796 ?_
  refine zv_xald (pc := 797) d_L_law_797 (zl_in 2 rfl hi (by decide) hL) ?_
  refine zv_aload_n (pc := 798) d_L_law_798 rfl ?_
  refine zv_iload_n (pc := 799) d_L_law_799 rfl ?_
  refine zv_iconst (pc := 800) d_L_law_800 zc_i_3 ?_
  refine zv_iadd (pc := 801) d_L_law_801 ?_
  refine zv_xald (pc := 802) d_L_law_802 (zl_in 3 rfl hi (by decide) hL) ?_
  refine zv_callV (pc := 803) (As := [.int (X.2 (Int32.toNatClampNeg ((nI i) + 1))), .int (X.2 (Int32.toNatClampNeg ((nI i) + 2))), .int (X.2 (Int32.toNatClampNeg ((nI i) + 3)))]) (o := 1) (st := []) (d2 := 6) (mc2 := 0) (ms2 := 0) (M2 := M_X10_dearest) (R2 := fun q S => q = some (.int r) ∧ S = (I1, R, J)) d_L_law_803 (zw_mG (List.mem_of_getElem? (i := 1042) (by decide +kernel)) rfl) ce_X10_dearest (Or.inl ⟨10, _, by decide, by decide, by decide +kernel, rfl, rfl⟩) (Nat.le_of_ble_eq_true rfl) rfl (Nat.le_of_ble_eq_true rfl) (by decide) ⟨by decide, by decide⟩ (by decide) (c_X10_dearest X 1 (X.2 (Int32.toNatClampNeg ((nI i) + 1))) (X.2 (Int32.toNatClampNeg ((nI i) + 2))) (X.2 (Int32.toNatClampNeg ((nI i) + 3))) I R J _ h1 ⟨rfl, rfl⟩) ?_
  rintro _ _ ⟨rfl, rfl⟩
  show zw_V X M_L_law 1300 199 25592 0 P (803 + 3) 199 25592 [.ref 1012, .ref 1, .ref 148, .int (nI i)] [.int r] (I1, R, J)
  refine zv_aload_n (pc := 806) d_L_law_806 rfl ?_
  refine zv_aload_n (pc := 807) d_L_law_807 rfl ?_
  refine zv_iload_n (pc := 808) d_L_law_808 rfl ?_
  refine zv_iconst (pc := 809) d_L_law_809 zc_i_1 ?_
  refine zv_iadd (pc := 810) d_L_law_810 ?_
  refine zv_xald (pc := 811) d_L_law_811 (zl_in 1 rfl hi (by decide) hL) ?_
  refine zv_aload_n (pc := 812) d_L_law_812 rfl ?_
  refine zv_iload_n (pc := 813) d_L_law_813 rfl ?_
  refine zv_iconst (pc := 814) d_L_law_814 zc_i_2 ?_
  refine zv_iadd (pc := 815) d_L_law_815 ?_
  refine zv_xald (pc := 816) d_L_law_816 (zl_in 2 rfl hi (by decide) hL) ?_
  refine zv_aload_n (pc := 817) d_L_law_817 rfl ?_
  refine zv_iload_n (pc := 818) d_L_law_818 rfl ?_
  refine zv_iconst (pc := 819) d_L_law_819 zc_i_3 ?_
  refine zv_iadd (pc := 820) d_L_law_820 ?_
  refine zv_xald (pc := 821) d_L_law_821 (zl_in 3 rfl hi (by decide) hL) ?_
  refine zv_callV (pc := 822) (As := [.int (X.2 (Int32.toNatClampNeg ((nI i) + 1))), .int (X.2 (Int32.toNatClampNeg ((nI i) + 2))), .int (X.2 (Int32.toNatClampNeg ((nI i) + 3)))]) (o := 148) (st := [.int r]) (d2 := 6) (mc2 := 0) (ms2 := 0) (M2 := M_X11_dearest) (R2 := fun q S => q = some (.int r) ∧ S = (I2, R, J)) d_L_law_822 (zw_mG (List.mem_of_getElem? (i := 1657) (by decide +kernel)) rfl) ce_X11_dearest (Or.inl ⟨11, _, by decide, by decide, by decide +kernel, rfl, rfl⟩) (Nat.le_of_ble_eq_true rfl) rfl (Nat.le_of_ble_eq_true rfl) (by decide) ⟨by decide, by decide⟩ (by decide) (c_X11_dearest X 148 (X.2 (Int32.toNatClampNeg ((nI i) + 1))) (X.2 (Int32.toNatClampNeg ((nI i) + 2))) (X.2 (Int32.toNatClampNeg ((nI i) + 3))) I1 R J _ h2 ⟨rfl, rfl⟩) ?_
  rintro _ _ ⟨rfl, rfl⟩
  show zw_V X M_L_law 1300 199 25592 0 P (822 + 3) 199 25592 [.ref 1012, .ref 1, .ref 148, .int (nI i)] [.int r, .int r] (I2, R, J)
  refine zv_icmp_eq (pc := 825) (tg := 1107) d_L_law_825 (by decide) (fun _ => ?_) (fun q => absurd rfl q)
  exact hg I2 R J hR
theorem zl_two {X : zw_X} {P : Option Value → aS → Prop} {Rel : aS → Prop} (hE : zE_two Rel) {i : Nat} (hi : i + 9 ≤ X.1) (hL : X.1 ≤ 4608) (hg : ∀ I R J, Rel (I, R, J) → zw_V X M_L_law 1300 199 25592 0 P (1107) 199 25592 [.ref 1012, .ref 1, .ref 148, .int (nI i)] [] (I, R, J)) (I : zI) (R : zR) (J : zJ) (hR : Rel (I, R, J)) : zw_V X M_L_law 1300 199 25592 0 P (830) 199 25592 [.ref 1012, .ref 1, .ref 148, .int (nI i)] [] (I, R, J) := by
  obtain ⟨r, I1, I2, h1, h2, hR⟩ := hE I R J (X.2 (Int32.toNatClampNeg (nI i + 1))) (X.2 (Int32.toNatClampNeg (nI i + 2))) (X.2 (Int32.toNatClampNeg (nI i + 3))) hR
  refine zv_aload_n (pc := 830) d_L_law_830 rfl ?_
  refine zv_aload_n (pc := 831) d_L_law_831 rfl ?_
  refine zv_iload_n (pc := 832) d_L_law_832 rfl ?_
  refine zv_iconst (pc := 833) d_L_law_833 zc_i_1 ?_
  refine zv_iadd (pc := 834) d_L_law_834 ?_
  refine zv_xald (pc := 835) d_L_law_835 (zl_in 1 rfl hi (by decide) hL) ?_
  refine zv_aload_n (pc := 836) d_L_law_836 rfl ?_
  refine zv_iload_n (pc := 837) d_L_law_837 rfl ?_
  refine zv_iconst (pc := 838) d_L_law_838 zc_i_2 ?_
  refine zv_iadd (pc := 839) d_L_law_839 ?_
  refine zv_xald (pc := 840) d_L_law_840 (zl_in 2 rfl hi (by decide) hL) ?_
  refine zv_aload_n (pc := 841) d_L_law_841 rfl ?_
  refine zv_iload_n (pc := 842) d_L_law_842 rfl ?_
  refine zv_iconst (pc := 843) d_L_law_843 zc_i_3 ?_
  refine zv_iadd (pc := 844) d_L_law_844 ?_
  refine zv_xald (pc := 845) d_L_law_845 (zl_in 3 rfl hi (by decide) hL) ?_
  refine zv_callV (pc := 846) (As := [.int (X.2 (Int32.toNatClampNeg ((nI i) + 1))), .int (X.2 (Int32.toNatClampNeg ((nI i) + 2))), .int (X.2 (Int32.toNatClampNeg ((nI i) + 3)))]) (o := 1) (st := []) (d2 := 6) (mc2 := 0) (ms2 := 0) (M2 := M_X10_two) (R2 := fun q S => q = some (.int r) ∧ S = (I1, R, J)) d_L_law_846 (zw_mG (List.mem_of_getElem? (i := 1066) (by decide +kernel)) rfl) ce_X10_two (Or.inl ⟨10, _, by decide, by decide, by decide +kernel, rfl, rfl⟩) (Nat.le_of_ble_eq_true rfl) rfl (Nat.le_of_ble_eq_true rfl) (by decide) ⟨by decide, by decide⟩ (by decide) (c_X10_two X 1 (X.2 (Int32.toNatClampNeg ((nI i) + 1))) (X.2 (Int32.toNatClampNeg ((nI i) + 2))) (X.2 (Int32.toNatClampNeg ((nI i) + 3))) I R J _ h1 ⟨rfl, rfl⟩) ?_
  rintro _ _ ⟨rfl, rfl⟩
  show zw_V X M_L_law 1300 199 25592 0 P (846 + 3) 199 25592 [.ref 1012, .ref 1, .ref 148, .int (nI i)] [.int r] (I1, R, J)
  refine zv_aload_n (pc := 849) d_L_law_849 rfl ?_
  refine zv_aload_n (pc := 850) d_L_law_850 rfl ?_
  refine zv_iload_n (pc := 851) d_L_law_851 rfl ?_
  refine zv_iconst (pc := 852) d_L_law_852 zc_i_1 ?_
  refine zv_iadd (pc := 853) d_L_law_853 ?_
  refine zv_xald (pc := 854) d_L_law_854 (zl_in 1 rfl hi (by decide) hL) ?_
  refine zv_aload_n (pc := 855) d_L_law_855 rfl ?_
  refine zv_iload_n (pc := 856) d_L_law_856 rfl ?_
  refine zv_iconst (pc := 857) d_L_law_857 zc_i_2 ?_
  refine zv_iadd (pc := 858) d_L_law_858 ?_
  refine zv_xald (pc := 859) d_L_law_859 (zl_in 2 rfl hi (by decide) hL) ?_
  refine zv_aload_n (pc := 860) d_L_law_860 rfl ?_
  refine zv_iload_n (pc := 861) d_L_law_861 rfl ?_
  refine zv_iconst (pc := 862) d_L_law_862 zc_i_3 ?_
  refine zv_iadd (pc := 863) d_L_law_863 ?_
  refine zv_xald (pc := 864) d_L_law_864 (zl_in 3 rfl hi (by decide) hL) ?_
  refine zv_callV (pc := 865) (As := [.int (X.2 (Int32.toNatClampNeg ((nI i) + 1))), .int (X.2 (Int32.toNatClampNeg ((nI i) + 2))), .int (X.2 (Int32.toNatClampNeg ((nI i) + 3)))]) (o := 148) (st := [.int r]) (d2 := 6) (mc2 := 0) (ms2 := 0) (M2 := M_X11_two) (R2 := fun q S => q = some (.int r) ∧ S = (I2, R, J)) d_L_law_865 (zw_mG (List.mem_of_getElem? (i := 1673) (by decide +kernel)) rfl) ce_X11_two (Or.inl ⟨11, _, by decide, by decide, by decide +kernel, rfl, rfl⟩) (Nat.le_of_ble_eq_true rfl) rfl (Nat.le_of_ble_eq_true rfl) (by decide) ⟨by decide, by decide⟩ (by decide) (c_X11_two X 148 (X.2 (Int32.toNatClampNeg ((nI i) + 1))) (X.2 (Int32.toNatClampNeg ((nI i) + 2))) (X.2 (Int32.toNatClampNeg ((nI i) + 3))) I1 R J _ h2 ⟨rfl, rfl⟩) ?_
  rintro _ _ ⟨rfl, rfl⟩
  show zw_V X M_L_law 1300 199 25592 0 P (865 + 3) 199 25592 [.ref 1012, .ref 1, .ref 148, .int (nI i)] [.int r, .int r] (I2, R, J)
  refine zv_icmp_eq (pc := 868) (tg := 1107) d_L_law_868 (by decide) (fun _ => ?_) (fun q => absurd rfl q)
  exact hg I2 R J hR
theorem zl_laid {X : zw_X} {P : Option Value → aS → Prop} {Rel : aS → Prop} (hE : zE_laid Rel) {i : Nat} (hi : i + 9 ≤ X.1) (hL : X.1 ≤ 4608) (hg : ∀ I R J, Rel (I, R, J) → zw_V X M_L_law 1300 199 25592 0 P (1107) 199 25592 [.ref 1012, .ref 1, .ref 148, .int (nI i)] [] (I, R, J)) (I : zI) (R : zR) (J : zJ) (hR : Rel (I, R, J)) : zw_V X M_L_law 1300 199 25592 0 P (873) 199 25592 [.ref 1012, .ref 1, .ref 148, .int (nI i)] [] (I, R, J) := by
  obtain ⟨r, h1, h2, hR⟩ := hE I R J (X.2 (Int32.toNatClampNeg (nI i + 1))) hR
  refine zv_aload_n (pc := 873) d_L_law_873 rfl ?_
  refine zv_aload_n (pc := 874) d_L_law_874 rfl ?_
  refine zv_iload_n (pc := 875) d_L_law_875 rfl ?_
  refine zv_iconst (pc := 876) d_L_law_876 zc_i_1 ?_
  refine zv_iadd (pc := 877) d_L_law_877 ?_
  refine zv_xald (pc := 878) d_L_law_878 (zl_in 1 rfl hi (by decide) hL) ?_
  refine zv_callV (pc := 879) (As := [.int (X.2 (Int32.toNatClampNeg ((nI i) + 1)))]) (o := 1) (st := []) (d2 := 0) (mc2 := 0) (ms2 := 0) (M2 := M_X10_laid) (R2 := fun q S => q = some (.int r) ∧ S = (I, R, J)) d_L_law_879 (zw_mG (List.mem_of_getElem? (i := 1070) (by decide +kernel)) rfl) ce_X10_laid (Or.inl ⟨10, _, by decide, by decide, by decide +kernel, rfl, rfl⟩) (Nat.le_of_ble_eq_true rfl) rfl (Nat.le_of_ble_eq_true rfl) (by decide) ⟨by decide, by decide⟩ (by decide) (c_X10_laid X 1 (X.2 (Int32.toNatClampNeg ((nI i) + 1))) I R J _ h1 ⟨rfl, rfl⟩) ?_
  rintro _ _ ⟨rfl, rfl⟩
  show zw_V X M_L_law 1300 199 25592 0 P (879 + 3) 199 25592 [.ref 1012, .ref 1, .ref 148, .int (nI i)] [.int r] (I, R, J)
  refine zv_aload_n (pc := 882) d_L_law_882 rfl ?_
  refine zv_aload_n (pc := 883) d_L_law_883 rfl ?_
  refine zv_iload_n (pc := 884) d_L_law_884 rfl ?_
  refine zv_iconst (pc := 885) d_L_law_885 zc_i_1 ?_
  refine zv_iadd (pc := 886) d_L_law_886 ?_
  refine zv_xald (pc := 887) d_L_law_887 (zl_in 1 rfl hi (by decide) hL) ?_
  refine zv_callV (pc := 888) (As := [.int (X.2 (Int32.toNatClampNeg ((nI i) + 1)))]) (o := 148) (st := [.int r]) (d2 := 1) (mc2 := 0) (ms2 := 0) (M2 := M_X11_laid) (R2 := fun q S => q = some (.int r) ∧ S = (I, R, J)) d_L_law_888 (zw_mG (List.mem_of_getElem? (i := 1677) (by decide +kernel)) rfl) ce_X11_laid (Or.inl ⟨11, _, by decide, by decide, by decide +kernel, rfl, rfl⟩) (Nat.le_of_ble_eq_true rfl) rfl (Nat.le_of_ble_eq_true rfl) (by decide) ⟨by decide, by decide⟩ (by decide) (c_X11_laid X 148 (X.2 (Int32.toNatClampNeg ((nI i) + 1))) I R J _ h2 ⟨rfl, rfl⟩) ?_
  rintro _ _ ⟨rfl, rfl⟩
  show zw_V X M_L_law 1300 199 25592 0 P (888 + 3) 199 25592 [.ref 1012, .ref 1, .ref 148, .int (nI i)] [.int r, .int r] (I, R, J)
  refine zv_icmp_eq (pc := 891) (tg := 1107) d_L_law_891 (by decide) (fun _ => ?_) (fun q => absurd rfl q)
  exact hg I R J hR
theorem zl_test {X : zw_X} {P : Option Value → aS → Prop} {Rel : aS → Prop} (hE : zE_test Rel) {i : Nat} (hi : i + 9 ≤ X.1) (hL : X.1 ≤ 4608) (hg : ∀ I R J, Rel (I, R, J) → zw_V X M_L_law 1300 199 25592 0 P (1107) 199 25592 [.ref 1012, .ref 1, .ref 148, .int (nI i)] [] (I, R, J)) (I : zI) (R : zR) (J : zJ) (hR : Rel (I, R, J)) : zw_V X M_L_law 1300 199 25592 0 P (896) 199 25592 [.ref 1012, .ref 1, .ref 148, .int (nI i)] [] (I, R, J) := by
  obtain ⟨r, I1, I2, h1, h2, hR⟩ := hE I R J (X.2 (Int32.toNatClampNeg (nI i + 1))) (X.2 (Int32.toNatClampNeg (nI i + 2))) (X.2 (Int32.toNatClampNeg (nI i + 3))) hR
  refine zv_aload_n (pc := 896) d_L_law_896 rfl ?_
  refine zv_aload_n (pc := 897) d_L_law_897 rfl ?_
  refine zv_iload_n (pc := 898) d_L_law_898 rfl ?_
  refine zv_iconst (pc := 899) d_L_law_899 zc_i_1 ?_
  refine zv_iadd (pc := 900) d_L_law_900 ?_
  refine zv_xald (pc := 901) d_L_law_901 (zl_in 1 rfl hi (by decide) hL) ?_
  refine zv_aload_n (pc := 902) d_L_law_902 rfl ?_
  refine zv_iload_n (pc := 903) d_L_law_903 rfl ?_
  refine zv_iconst (pc := 904) d_L_law_904 zc_i_2 ?_
  refine zv_iadd (pc := 905) d_L_law_905 ?_
  refine zv_xald (pc := 906) d_L_law_906 (zl_in 2 rfl hi (by decide) hL) ?_
  refine zv_aload_n (pc := 907) d_L_law_907 rfl ?_
  refine zv_iload_n (pc := 908) d_L_law_908 rfl ?_
  refine zv_iconst (pc := 909) d_L_law_909 zc_i_3 ?_
  refine zv_iadd (pc := 910) d_L_law_910 ?_
  refine zv_xald (pc := 911) d_L_law_911 (zl_in 3 rfl hi (by decide) hL) ?_
  refine zv_callV (pc := 912) (As := [.int (X.2 (Int32.toNatClampNeg ((nI i) + 1))), .int (X.2 (Int32.toNatClampNeg ((nI i) + 2))), .int (X.2 (Int32.toNatClampNeg ((nI i) + 3)))]) (o := 1) (st := []) (d2 := 1) (mc2 := 0) (ms2 := 0) (M2 := M_X10_test) (R2 := fun q S => q = some (.int r) ∧ S = (I1, R, J)) d_L_law_912 (zw_mG (List.mem_of_getElem? (i := 1074) (by decide +kernel)) rfl) ce_X10_test (Or.inl ⟨10, _, by decide, by decide, by decide +kernel, rfl, rfl⟩) (Nat.le_of_ble_eq_true rfl) rfl (Nat.le_of_ble_eq_true rfl) (by decide) ⟨by decide, by decide⟩ (by decide) (c_X10_test X 1 (X.2 (Int32.toNatClampNeg ((nI i) + 1))) (X.2 (Int32.toNatClampNeg ((nI i) + 2))) (X.2 (Int32.toNatClampNeg ((nI i) + 3))) I R J _ h1 ⟨rfl, rfl⟩) ?_
  rintro _ _ ⟨rfl, rfl⟩
  show zw_V X M_L_law 1300 199 25592 0 P (912 + 3) 199 25592 [.ref 1012, .ref 1, .ref 148, .int (nI i)] [.int r] (I1, R, J)
  refine zv_aload_n (pc := 915) d_L_law_915 rfl ?_
  refine zv_aload_n (pc := 916) d_L_law_916 rfl ?_
  refine zv_iload_n (pc := 917) d_L_law_917 rfl ?_
  refine zv_iconst (pc := 918) d_L_law_918 zc_i_1 ?_
  refine zv_iadd (pc := 919) d_L_law_919 ?_
  refine zv_xald (pc := 920) d_L_law_920 (zl_in 1 rfl hi (by decide) hL) ?_
  refine zv_aload_n (pc := 921) d_L_law_921 rfl ?_
  refine zv_iload_n (pc := 922) d_L_law_922 rfl ?_
  refine zv_iconst (pc := 923) d_L_law_923 zc_i_2 ?_
  refine zv_iadd (pc := 924) d_L_law_924 ?_
  refine zv_xald (pc := 925) d_L_law_925 (zl_in 2 rfl hi (by decide) hL) ?_
  refine zv_aload_n (pc := 926) d_L_law_926 rfl ?_
  refine zv_iload_n (pc := 927) d_L_law_927 rfl ?_
  refine zv_iconst (pc := 928) d_L_law_928 zc_i_3 ?_
  refine zv_iadd (pc := 929) d_L_law_929 ?_
  refine zv_xald (pc := 930) d_L_law_930 (zl_in 3 rfl hi (by decide) hL) ?_
  refine zv_callV (pc := 931) (As := [.int (X.2 (Int32.toNatClampNeg ((nI i) + 1))), .int (X.2 (Int32.toNatClampNeg ((nI i) + 2))), .int (X.2 (Int32.toNatClampNeg ((nI i) + 3)))]) (o := 148) (st := [.int r]) (d2 := 2) (mc2 := 0) (ms2 := 0) (M2 := M_X11_test) (R2 := fun q S => q = some (.int r) ∧ S = (I2, R, J)) d_L_law_931 (zw_mG (List.mem_of_getElem? (i := 1681) (by decide +kernel)) rfl) ce_X11_test (Or.inl ⟨11, _, by decide, by decide, by decide +kernel, rfl, rfl⟩) (Nat.le_of_ble_eq_true rfl) rfl (Nat.le_of_ble_eq_true rfl) (by decide) ⟨by decide, by decide⟩ (by decide) (c_X11_test X 148 (X.2 (Int32.toNatClampNeg ((nI i) + 1))) (X.2 (Int32.toNatClampNeg ((nI i) + 2))) (X.2 (Int32.toNatClampNeg ((nI i) + 3))) I1 R J _ h2 ⟨rfl, rfl⟩) ?_
  rintro _ _ ⟨rfl, rfl⟩
  show zw_V X M_L_law 1300 199 25592 0 P (931 + 3) 199 25592 [.ref 1012, .ref 1, .ref 148, .int (nI i)] [.int r, .int r] (I2, R, J)
  refine zv_icmp_eq (pc := 934) (tg := 1107) d_L_law_934 (by decide) (fun _ => ?_) (fun q => absurd rfl q)
  exact hg I2 R J hR
theorem zl_annul {X : zw_X} {P : Option Value → aS → Prop} {Rel : aS → Prop} (hE : zE_annul Rel) {i : Nat} (hi : i + 9 ≤ X.1) (hL : X.1 ≤ 4608) (hg : ∀ I R J, Rel (I, R, J) → zw_V X M_L_law 1300 199 25592 0 P (1107) 199 25592 [.ref 1012, .ref 1, .ref 148, .int (nI i)] [] (I, R, J)) (I : zI) (R : zR) (J : zJ) (hR : Rel (I, R, J)) : zw_V X M_L_law 1300 199 25592 0 P (939) 199 25592 [.ref 1012, .ref 1, .ref 148, .int (nI i)] [] (I, R, J) := by
  obtain ⟨r, I1, I2, h1, h2, hR⟩ := hE I R J (X.2 (Int32.toNatClampNeg (nI i + 1))) hR
  refine zv_aload_n (pc := 939) d_L_law_939 rfl ?_
  refine zv_aload_n (pc := 940) d_L_law_940 rfl ?_
  refine zv_iload_n (pc := 941) d_L_law_941 rfl ?_
  refine zv_iconst (pc := 942) d_L_law_942 zc_i_1 ?_
  refine zv_iadd (pc := 943) d_L_law_943 ?_
  refine zv_xald (pc := 944) d_L_law_944 (zl_in 1 rfl hi (by decide) hL) ?_
  refine zv_callV (pc := 945) (As := [.int (X.2 (Int32.toNatClampNeg ((nI i) + 1)))]) (o := 1) (st := []) (d2 := 1) (mc2 := 0) (ms2 := 0) (M2 := M_X10_annul) (R2 := fun q S => q = some (.int r) ∧ S = (I1, R, J)) d_L_law_945 (zw_mG (List.mem_of_getElem? (i := 1082) (by decide +kernel)) rfl) ce_X10_annul (Or.inl ⟨10, _, by decide, by decide, by decide +kernel, rfl, rfl⟩) (Nat.le_of_ble_eq_true rfl) rfl (Nat.le_of_ble_eq_true rfl) (by decide) ⟨by decide, by decide⟩ (by decide) (c_X10_annul X 1 (X.2 (Int32.toNatClampNeg ((nI i) + 1))) I R J _ h1 ⟨rfl, rfl⟩) ?_
  rintro _ _ ⟨rfl, rfl⟩
  show zw_V X M_L_law 1300 199 25592 0 P (945 + 3) 199 25592 [.ref 1012, .ref 1, .ref 148, .int (nI i)] [.int r] (I1, R, J)
  refine zv_aload_n (pc := 948) d_L_law_948 rfl ?_
  refine zv_aload_n (pc := 949) d_L_law_949 rfl ?_
  refine zv_iload_n (pc := 950) d_L_law_950 rfl ?_
  refine zv_iconst (pc := 951) d_L_law_951 zc_i_1 ?_
  refine zv_iadd (pc := 952) d_L_law_952 ?_
  refine zv_xald (pc := 953) d_L_law_953 (zl_in 1 rfl hi (by decide) hL) ?_
  refine zv_callV (pc := 954) (As := [.int (X.2 (Int32.toNatClampNeg ((nI i) + 1)))]) (o := 148) (st := [.int r]) (d2 := 1) (mc2 := 0) (ms2 := 0) (M2 := M_X11_annul) (R2 := fun q S => q = some (.int r) ∧ S = (I2, R, J)) d_L_law_954 (zw_mG (List.mem_of_getElem? (i := 1685) (by decide +kernel)) rfl) ce_X11_annul (Or.inl ⟨11, _, by decide, by decide, by decide +kernel, rfl, rfl⟩) (Nat.le_of_ble_eq_true rfl) rfl (Nat.le_of_ble_eq_true rfl) (by decide) ⟨by decide, by decide⟩ (by decide) (c_X11_annul X 148 (X.2 (Int32.toNatClampNeg ((nI i) + 1))) I1 R J _ h2 ⟨rfl, rfl⟩) ?_
  rintro _ _ ⟨rfl, rfl⟩
  show zw_V X M_L_law 1300 199 25592 0 P (954 + 3) 199 25592 [.ref 1012, .ref 1, .ref 148, .int (nI i)] [.int r, .int r] (I2, R, J)
  refine zv_icmp_eq (pc := 957) (tg := 1107) d_L_law_957 (by decide) (fun _ => ?_) (fun q => absurd rfl q)
  exact hg I2 R J hR
theorem zl_bright {X : zw_X} {P : Option Value → aS → Prop} {Rel : aS → Prop} (hE : zE_bright Rel) {i : Nat} (hi : i + 9 ≤ X.1) (hL : X.1 ≤ 4608) (hg : ∀ I R J, Rel (I, R, J) → zw_V X M_L_law 1300 199 25592 0 P (1107) 199 25592 [.ref 1012, .ref 1, .ref 148, .int (nI i)] [] (I, R, J)) (I : zI) (R : zR) (J : zJ) (hR : Rel (I, R, J)) : zw_V X M_L_law 1300 199 25592 0 P (962) 199 25592 [.ref 1012, .ref 1, .ref 148, .int (nI i)] [] (I, R, J) := by
  obtain ⟨r, I1, I2, h1, h2, hR⟩ := hE I R J (X.2 (Int32.toNatClampNeg (nI i + 1))) (X.2 (Int32.toNatClampNeg (nI i + 2))) (X.2 (Int32.toNatClampNeg (nI i + 3))) hR
  refine zv_aload_n (pc := 962) d_L_law_962 rfl ?_
  refine zv_aload_n (pc := 963) d_L_law_963 rfl ?_
  refine zv_iload_n (pc := 964) d_L_law_964 rfl ?_
  refine zv_iconst (pc := 965) d_L_law_965 zc_i_1 ?_
  refine zv_iadd (pc := 966) d_L_law_966 ?_
  refine zv_xald (pc := 967) d_L_law_967 (zl_in 1 rfl hi (by decide) hL) ?_
  refine zv_aload_n (pc := 968) d_L_law_968 rfl ?_
  refine zv_iload_n (pc := 969) d_L_law_969 rfl ?_
  refine zv_iconst (pc := 970) d_L_law_970 zc_i_2 ?_
  refine zv_iadd (pc := 971) d_L_law_971 ?_
  refine zv_xald (pc := 972) d_L_law_972 (zl_in 2 rfl hi (by decide) hL) ?_
  refine zv_aload_n (pc := 973) d_L_law_973 rfl ?_
  refine zv_iload_n (pc := 974) d_L_law_974 rfl ?_
  refine zv_iconst (pc := 975) d_L_law_975 zc_i_3 ?_
  refine zv_iadd (pc := 976) d_L_law_976 ?_
  refine zv_xald (pc := 977) d_L_law_977 (zl_in 3 rfl hi (by decide) hL) ?_
  refine zv_callV (pc := 978) (As := [.int (X.2 (Int32.toNatClampNeg ((nI i) + 1))), .int (X.2 (Int32.toNatClampNeg ((nI i) + 2))), .int (X.2 (Int32.toNatClampNeg ((nI i) + 3)))]) (o := 1) (st := []) (d2 := 5) (mc2 := 0) (ms2 := 0) (M2 := M_X10_bright) (R2 := fun q S => q = some (.int r) ∧ S = (I1, R, J)) d_L_law_978 (zw_mG (List.mem_of_getElem? (i := 1090) (by decide +kernel)) rfl) ce_X10_bright (Or.inl ⟨10, _, by decide, by decide, by decide +kernel, rfl, rfl⟩) (Nat.le_of_ble_eq_true rfl) rfl (Nat.le_of_ble_eq_true rfl) (by decide) ⟨by decide, by decide⟩ (by decide) (c_X10_bright X 1 (X.2 (Int32.toNatClampNeg ((nI i) + 1))) (X.2 (Int32.toNatClampNeg ((nI i) + 2))) (X.2 (Int32.toNatClampNeg ((nI i) + 3))) I R J _ h1 ⟨rfl, rfl⟩) ?_
  rintro _ _ ⟨rfl, rfl⟩
  show zw_V X M_L_law 1300 199 25592 0 P (978 + 3) 199 25592 [.ref 1012, .ref 1, .ref 148, .int (nI i)] [.int r] (I1, R, J)
  refine zv_aload_n (pc := 981) d_L_law_981 rfl ?_
  refine zv_aload_n (pc := 982) d_L_law_982 rfl ?_
  refine zv_iload_n (pc := 983) d_L_law_983 rfl ?_
  refine zv_iconst (pc := 984) d_L_law_984 zc_i_1 ?_
  refine zv_iadd (pc := 985) d_L_law_985 ?_
  refine zv_xald (pc := 986) d_L_law_986 (zl_in 1 rfl hi (by decide) hL) ?_
  refine zv_aload_n (pc := 987) d_L_law_987 rfl ?_
  refine zv_iload_n (pc := 988) d_L_law_988 rfl ?_
  refine zv_iconst (pc := 989) d_L_law_989 zc_i_2 ?_
  refine zv_iadd (pc := 990) d_L_law_990 ?_
  refine zv_xald (pc := 991) d_L_law_991 (zl_in 2 rfl hi (by decide) hL) ?_
  refine zv_aload_n (pc := 992) d_L_law_992 rfl ?_
  refine zv_iload_n (pc := 993) d_L_law_993 rfl ?_
  refine zv_iconst (pc := 994) d_L_law_994 zc_i_3 ?_
  refine zv_iadd (pc := 995) d_L_law_995 ?_
  refine zv_xald (pc := 996) d_L_law_996 (zl_in 3 rfl hi (by decide) hL) ?_
  refine zv_callV (pc := 997) (As := [.int (X.2 (Int32.toNatClampNeg ((nI i) + 1))), .int (X.2 (Int32.toNatClampNeg ((nI i) + 2))), .int (X.2 (Int32.toNatClampNeg ((nI i) + 3)))]) (o := 148) (st := [.int r]) (d2 := 6) (mc2 := 0) (ms2 := 0) (M2 := M_X11_bright) (R2 := fun q S => q = some (.int r) ∧ S = (I2, R, J)) d_L_law_997 (zw_mG (List.mem_of_getElem? (i := 1689) (by decide +kernel)) rfl) ce_X11_bright (Or.inl ⟨11, _, by decide, by decide, by decide +kernel, rfl, rfl⟩) (Nat.le_of_ble_eq_true rfl) rfl (Nat.le_of_ble_eq_true rfl) (by decide) ⟨by decide, by decide⟩ (by decide) (c_X11_bright X 148 (X.2 (Int32.toNatClampNeg ((nI i) + 1))) (X.2 (Int32.toNatClampNeg ((nI i) + 2))) (X.2 (Int32.toNatClampNeg ((nI i) + 3))) I1 R J _ h2 ⟨rfl, rfl⟩) ?_
  rintro _ _ ⟨rfl, rfl⟩
  show zw_V X M_L_law 1300 199 25592 0 P (997 + 3) 199 25592 [.ref 1012, .ref 1, .ref 148, .int (nI i)] [.int r, .int r] (I2, R, J)
  refine zv_icmp_eq (pc := 1000) (tg := 1107) d_L_law_1000 (by decide) (fun _ => ?_) (fun q => absurd rfl q)
  exact hg I2 R J hR
theorem zl_barred {X : zw_X} {P : Option Value → aS → Prop} {Rel : aS → Prop} (hE : zE_barred Rel) {i : Nat} (hi : i + 9 ≤ X.1) (hL : X.1 ≤ 4608) (hg : ∀ I R J, Rel (I, R, J) → zw_V X M_L_law 1300 199 25592 0 P (1107) 199 25592 [.ref 1012, .ref 1, .ref 148, .int (nI i)] [] (I, R, J)) (I : zI) (R : zR) (J : zJ) (hR : Rel (I, R, J)) : zw_V X M_L_law 1300 199 25592 0 P (1005) 199 25592 [.ref 1012, .ref 1, .ref 148, .int (nI i)] [] (I, R, J) := by
  obtain ⟨r, I1, I2, h1, h2, hR⟩ := hE I R J (X.2 (Int32.toNatClampNeg (nI i + 1))) (X.2 (Int32.toNatClampNeg (nI i + 2))) hR
  refine zv_aload_n (pc := 1005) d_L_law_1005 rfl ?_
  refine zv_aload_n (pc := 1006) d_L_law_1006 rfl ?_
  refine zv_iload_n (pc := 1007) d_L_law_1007 rfl ?_
  refine zv_iconst (pc := 1008) d_L_law_1008 zc_i_1 ?_
  refine zv_iadd (pc := 1009) d_L_law_1009 ?_
  refine zv_xald (pc := 1010) d_L_law_1010 (zl_in 1 rfl hi (by decide) hL) ?_
  refine zv_aload_n (pc := 1011) d_L_law_1011 rfl ?_
  refine zv_iload_n (pc := 1012) d_L_law_1012 rfl ?_
  refine zv_iconst (pc := 1013) d_L_law_1013 zc_i_2 ?_
  refine zv_iadd (pc := 1014) d_L_law_1014 ?_
  refine zv_xald (pc := 1015) d_L_law_1015 (zl_in 2 rfl hi (by decide) hL) ?_
  refine zv_callV (pc := 1016) (As := [.int (X.2 (Int32.toNatClampNeg ((nI i) + 1))), .int (X.2 (Int32.toNatClampNeg ((nI i) + 2)))]) (o := 1) (st := []) (d2 := 6) (mc2 := 0) (ms2 := 0) (M2 := M_X10_barred) (R2 := fun q S => q = some (.int r) ∧ S = (I1, R, J)) d_L_law_1016 (zw_mG (List.mem_of_getElem? (i := 1098) (by decide +kernel)) rfl) ce_X10_barred (Or.inl ⟨10, _, by decide, by decide, by decide +kernel, rfl, rfl⟩) (Nat.le_of_ble_eq_true rfl) rfl (Nat.le_of_ble_eq_true rfl) (by decide) ⟨by decide, by decide⟩ (by decide) (c_X10_barred X 1 (X.2 (Int32.toNatClampNeg ((nI i) + 1))) (X.2 (Int32.toNatClampNeg ((nI i) + 2))) I R J _ h1 ⟨rfl, rfl⟩) ?_
  rintro _ _ ⟨rfl, rfl⟩
  show zw_V X M_L_law 1300 199 25592 0 P (1016 + 3) 199 25592 [.ref 1012, .ref 1, .ref 148, .int (nI i)] [.int r] (I1, R, J)
  refine zv_aload_n (pc := 1019) d_L_law_1019 rfl ?_
  refine zv_aload_n (pc := 1020) d_L_law_1020 rfl ?_
  refine zv_iload_n (pc := 1021) d_L_law_1021 rfl ?_
  refine zv_iconst (pc := 1022) d_L_law_1022 zc_i_1 ?_
  refine zv_iadd (pc := 1023) d_L_law_1023 ?_
  refine zv_xald (pc := 1024) d_L_law_1024 (zl_in 1 rfl hi (by decide) hL) ?_
  refine zv_aload_n (pc := 1025) d_L_law_1025 rfl ?_
  refine zv_iload_n (pc := 1026) d_L_law_1026 rfl ?_
  refine zv_iconst (pc := 1027) d_L_law_1027 zc_i_2 ?_
  refine zv_iadd (pc := 1028) d_L_law_1028 ?_
  refine zv_xald (pc := 1029) d_L_law_1029 (zl_in 2 rfl hi (by decide) hL) ?_
  refine zv_callV (pc := 1030) (As := [.int (X.2 (Int32.toNatClampNeg ((nI i) + 1))), .int (X.2 (Int32.toNatClampNeg ((nI i) + 2)))]) (o := 148) (st := [.int r]) (d2 := 7) (mc2 := 0) (ms2 := 0) (M2 := M_X11_barred) (R2 := fun q S => q = some (.int r) ∧ S = (I2, R, J)) d_L_law_1030 (zw_mG (List.mem_of_getElem? (i := 1697) (by decide +kernel)) rfl) ce_X11_barred (Or.inl ⟨11, _, by decide, by decide, by decide +kernel, rfl, rfl⟩) (Nat.le_of_ble_eq_true rfl) rfl (Nat.le_of_ble_eq_true rfl) (by decide) ⟨by decide, by decide⟩ (by decide) (c_X11_barred X 148 (X.2 (Int32.toNatClampNeg ((nI i) + 1))) (X.2 (Int32.toNatClampNeg ((nI i) + 2))) I1 R J _ h2 ⟨rfl, rfl⟩) ?_
  rintro _ _ ⟨rfl, rfl⟩
  show zw_V X M_L_law 1300 199 25592 0 P (1030 + 3) 199 25592 [.ref 1012, .ref 1, .ref 148, .int (nI i)] [.int r, .int r] (I2, R, J)
  refine zv_icmp_eq (pc := 1033) (tg := 1107) d_L_law_1033 (by decide) (fun _ => ?_) (fun q => absurd rfl q)
  exact hg I2 R J hR
theorem zl_left {X : zw_X} {P : Option Value → aS → Prop} {Rel : aS → Prop} (hE : zE_left Rel) {i : Nat} (hi : i + 9 ≤ X.1) (hL : X.1 ≤ 4608) (hg : ∀ I R J, Rel (I, R, J) → zw_V X M_L_law 1300 199 25592 0 P (1107) 199 25592 [.ref 1012, .ref 1, .ref 148, .int (nI i)] [] (I, R, J)) (I : zI) (R : zR) (J : zJ) (hR : Rel (I, R, J)) : zw_V X M_L_law 1300 199 25592 0 P (1038) 199 25592 [.ref 1012, .ref 1, .ref 148, .int (nI i)] [] (I, R, J) := by
  obtain ⟨r, I1, I2, h1, h2, hR⟩ := hE I R J (X.2 (Int32.toNatClampNeg (nI i + 1))) hR
  refine zv_aload_n (pc := 1038) d_L_law_1038 rfl ?_
  refine zv_aload_n (pc := 1039) d_L_law_1039 rfl ?_
  refine zv_iload_n (pc := 1040) d_L_law_1040 rfl ?_
  refine zv_iconst (pc := 1041) d_L_law_1041 zc_i_1 ?_
  refine zv_iadd (pc := 1042) d_L_law_1042 ?_
  refine zv_xald (pc := 1043) d_L_law_1043 (zl_in 1 rfl hi (by decide) hL) ?_
  refine zv_callV (pc := 1044) (As := [.int (X.2 (Int32.toNatClampNeg ((nI i) + 1)))]) (o := 1) (st := []) (d2 := 7) (mc2 := 0) (ms2 := 0) (M2 := M_X10_left) (R2 := fun q S => q = some (.int r) ∧ S = (I1, R, J)) d_L_law_1044 (zw_mG (List.mem_of_getElem? (i := 1115) (by decide +kernel)) rfl) ce_X10_left (Or.inl ⟨10, _, by decide, by decide, by decide +kernel, rfl, rfl⟩) (Nat.le_of_ble_eq_true rfl) rfl (Nat.le_of_ble_eq_true rfl) (by decide) ⟨by decide, by decide⟩ (by decide) (c_X10_left X 1 (X.2 (Int32.toNatClampNeg ((nI i) + 1))) I R J _ h1 ⟨rfl, rfl⟩) ?_
  rintro _ _ ⟨rfl, rfl⟩
  show zw_V X M_L_law 1300 199 25592 0 P (1044 + 3) 199 25592 [.ref 1012, .ref 1, .ref 148, .int (nI i)] [.int r] (I1, R, J)
  refine zv_aload_n (pc := 1047) d_L_law_1047 rfl ?_
  refine zv_aload_n (pc := 1048) d_L_law_1048 rfl ?_
  refine zv_iload_n (pc := 1049) d_L_law_1049 rfl ?_
  refine zv_iconst (pc := 1050) d_L_law_1050 zc_i_1 ?_
  refine zv_iadd (pc := 1051) d_L_law_1051 ?_
  refine zv_xald (pc := 1052) d_L_law_1052 (zl_in 1 rfl hi (by decide) hL) ?_
  refine zv_callV (pc := 1053) (As := [.int (X.2 (Int32.toNatClampNeg ((nI i) + 1)))]) (o := 148) (st := [.int r]) (d2 := 8) (mc2 := 0) (ms2 := 0) (M2 := M_X11_left) (R2 := fun q S => q = some (.int r) ∧ S = (I2, R, J)) d_L_law_1053 (zw_mG (List.mem_of_getElem? (i := 1713) (by decide +kernel)) rfl) ce_X11_left (Or.inl ⟨11, _, by decide, by decide, by decide +kernel, rfl, rfl⟩) (Nat.le_of_ble_eq_true rfl) rfl (Nat.le_of_ble_eq_true rfl) (by decide) ⟨by decide, by decide⟩ (by decide) (c_X11_left X 148 (X.2 (Int32.toNatClampNeg ((nI i) + 1))) I1 R J _ h2 ⟨rfl, rfl⟩) ?_
  rintro _ _ ⟨rfl, rfl⟩
  show zw_V X M_L_law 1300 199 25592 0 P (1053 + 3) 199 25592 [.ref 1012, .ref 1, .ref 148, .int (nI i)] [.int r, .int r] (I2, R, J)
  refine zv_icmp_eq (pc := 1056) (tg := 1107) d_L_law_1056 (by decide) (fun _ => ?_) (fun q => absurd rfl q)
  exact hg I2 R J hR
theorem zl_next {X : zw_X} {P : Option Value → aS → Prop} {Rel : aS → Prop} (hE : zE_next Rel) {i : Nat} (hi : i + 9 ≤ X.1) (hL : X.1 ≤ 4608) (hg : ∀ I R J, Rel (I, R, J) → zw_V X M_L_law 1300 199 25592 0 P (1107) 199 25592 [.ref 1012, .ref 1, .ref 148, .int (nI i)] [] (I, R, J)) (I : zI) (R : zR) (J : zJ) (hR : Rel (I, R, J)) : zw_V X M_L_law 1300 199 25592 0 P (1061) 199 25592 [.ref 1012, .ref 1, .ref 148, .int (nI i)] [] (I, R, J) := by
  obtain ⟨r, I1, I2, h1, h2, hR⟩ := hE I R J (X.2 (Int32.toNatClampNeg (nI i + 1))) hR
  refine zv_aload_n (pc := 1061) d_L_law_1061 rfl ?_
  refine zv_aload_n (pc := 1062) d_L_law_1062 rfl ?_
  refine zv_iload_n (pc := 1063) d_L_law_1063 rfl ?_
  refine zv_iconst (pc := 1064) d_L_law_1064 zc_i_1 ?_
  refine zv_iadd (pc := 1065) d_L_law_1065 ?_
  refine zv_xald (pc := 1066) d_L_law_1066 (zl_in 1 rfl hi (by decide) hL) ?_
  refine zv_callV (pc := 1067) (As := [.int (X.2 (Int32.toNatClampNeg ((nI i) + 1)))]) (o := 1) (st := []) (d2 := 7) (mc2 := 0) (ms2 := 0) (M2 := M_X10_next) (R2 := fun q S => q = some (.int r) ∧ S = (I1, R, J)) d_L_law_1067 (zw_mG (List.mem_of_getElem? (i := 1123) (by decide +kernel)) rfl) ce_X10_next (Or.inl ⟨10, _, by decide, by decide, by decide +kernel, rfl, rfl⟩) (Nat.le_of_ble_eq_true rfl) rfl (Nat.le_of_ble_eq_true rfl) (by decide) ⟨by decide, by decide⟩ (by decide) (c_X10_next X 1 (X.2 (Int32.toNatClampNeg ((nI i) + 1))) I R J _ h1 ⟨rfl, rfl⟩) ?_
  rintro _ _ ⟨rfl, rfl⟩
  show zw_V X M_L_law 1300 199 25592 0 P (1067 + 3) 199 25592 [.ref 1012, .ref 1, .ref 148, .int (nI i)] [.int r] (I1, R, J)
  refine zv_aload_n (pc := 1070) d_L_law_1070 rfl ?_
  refine zv_aload_n (pc := 1071) d_L_law_1071 rfl ?_
  refine zv_iload_n (pc := 1072) d_L_law_1072 rfl ?_
  refine zv_iconst (pc := 1073) d_L_law_1073 zc_i_1 ?_
  refine zv_iadd (pc := 1074) d_L_law_1074 ?_
  refine zv_xald (pc := 1075) d_L_law_1075 (zl_in 1 rfl hi (by decide) hL) ?_
  refine zv_callV (pc := 1076) (As := [.int (X.2 (Int32.toNatClampNeg ((nI i) + 1)))]) (o := 148) (st := [.int r]) (d2 := 8) (mc2 := 0) (ms2 := 0) (M2 := M_X11_next) (R2 := fun q S => q = some (.int r) ∧ S = (I2, R, J)) d_L_law_1076 (zw_mG (List.mem_of_getElem? (i := 1721) (by decide +kernel)) rfl) ce_X11_next (Or.inl ⟨11, _, by decide, by decide, by decide +kernel, rfl, rfl⟩) (Nat.le_of_ble_eq_true rfl) rfl (Nat.le_of_ble_eq_true rfl) (by decide) ⟨by decide, by decide⟩ (by decide) (c_X11_next X 148 (X.2 (Int32.toNatClampNeg ((nI i) + 1))) I1 R J _ h2 ⟨rfl, rfl⟩) ?_
  rintro _ _ ⟨rfl, rfl⟩
  show zw_V X M_L_law 1300 199 25592 0 P (1076 + 3) 199 25592 [.ref 1012, .ref 1, .ref 148, .int (nI i)] [.int r, .int r] (I2, R, J)
  refine zv_icmp_eq (pc := 1079) (tg := 1107) d_L_law_1079 (by decide) (fun _ => ?_) (fun q => absurd rfl q)
  exact hg I2 R J hR
theorem zl_count {X : zw_X} {P : Option Value → aS → Prop} {Rel : aS → Prop} (hE : zE_count Rel) {i : Nat} (hi : i + 9 ≤ X.1) (hL : X.1 ≤ 4608) (hg : ∀ I R J, Rel (I, R, J) → zw_V X M_L_law 1300 199 25592 0 P (1107) 199 25592 [.ref 1012, .ref 1, .ref 148, .int (nI i)] [] (I, R, J)) (I : zI) (R : zR) (J : zJ) (hR : Rel (I, R, J)) : zw_V X M_L_law 1300 199 25592 0 P (1084) 199 25592 [.ref 1012, .ref 1, .ref 148, .int (nI i)] [] (I, R, J) := by
  obtain ⟨r, h1, h2, hR⟩ := hE I R J (X.2 (Int32.toNatClampNeg (nI i + 1))) hR
  refine zv_aload_n (pc := 1084) d_L_law_1084 rfl ?_
  refine zv_aload_n (pc := 1085) d_L_law_1085 rfl ?_
  refine zv_iload_n (pc := 1086) d_L_law_1086 rfl ?_
  refine zv_iconst (pc := 1087) d_L_law_1087 zc_i_1 ?_
  refine zv_iadd (pc := 1088) d_L_law_1088 ?_
  refine zv_xald (pc := 1089) d_L_law_1089 (zl_in 1 rfl hi (by decide) hL) ?_
  refine zv_callV (pc := 1090) (As := [.int (X.2 (Int32.toNatClampNeg ((nI i) + 1)))]) (o := 1) (st := []) (d2 := 3) (mc2 := 0) (ms2 := 0) (M2 := M_X10_count) (R2 := fun q S => q = some (.int r) ∧ S = (I, R, J)) d_L_law_1090 (zw_mG (List.mem_of_getElem? (i := 1139) (by decide +kernel)) rfl) ce_X10_count (Or.inl ⟨10, _, by decide, by decide, by decide +kernel, rfl, rfl⟩) (Nat.le_of_ble_eq_true rfl) rfl (Nat.le_of_ble_eq_true rfl) (by decide) ⟨by decide, by decide⟩ (by decide) (c_X10_count X 1 (X.2 (Int32.toNatClampNeg ((nI i) + 1))) I R J _ h1 ⟨rfl, rfl⟩) ?_
  rintro _ _ ⟨rfl, rfl⟩
  show zw_V X M_L_law 1300 199 25592 0 P (1090 + 3) 199 25592 [.ref 1012, .ref 1, .ref 148, .int (nI i)] [.int r] (I, R, J)
  refine zv_aload_n (pc := 1093) d_L_law_1093 rfl ?_
  refine zv_aload_n (pc := 1094) d_L_law_1094 rfl ?_
  refine zv_iload_n (pc := 1095) d_L_law_1095 rfl ?_
  refine zv_iconst (pc := 1096) d_L_law_1096 zc_i_1 ?_
  refine zv_iadd (pc := 1097) d_L_law_1097 ?_
  refine zv_xald (pc := 1098) d_L_law_1098 (zl_in 1 rfl hi (by decide) hL) ?_
  refine zv_callV (pc := 1099) (As := [.int (X.2 (Int32.toNatClampNeg ((nI i) + 1)))]) (o := 148) (st := [.int r]) (d2 := 2) (mc2 := 0) (ms2 := 0) (M2 := M_X11_count) (R2 := fun q S => q = some (.int r) ∧ S = (I, R, J)) d_L_law_1099 (zw_mG (List.mem_of_getElem? (i := 1725) (by decide +kernel)) rfl) ce_X11_count (Or.inl ⟨11, _, by decide, by decide, by decide +kernel, rfl, rfl⟩) (Nat.le_of_ble_eq_true rfl) rfl (Nat.le_of_ble_eq_true rfl) (by decide) ⟨by decide, by decide⟩ (by decide) (c_X11_count X 148 (X.2 (Int32.toNatClampNeg ((nI i) + 1))) I R J _ h2 ⟨rfl, rfl⟩) ?_
  rintro _ _ ⟨rfl, rfl⟩
  show zw_V X M_L_law 1300 199 25592 0 P (1099 + 3) 199 25592 [.ref 1012, .ref 1, .ref 148, .int (nI i)] [.int r, .int r] (I, R, J)
  refine zv_icmp_eq (pc := 1102) (tg := 1107) d_L_law_1102 (by decide) (fun _ => ?_) (fun q => absurd rfl q)
  exact hg I R J hR
