theorem zl_feed {X : zw_X} {P : Option Value → aS → Prop} {Rel : aS → Prop} (hE : zE_feed Rel) {i : Nat} (hi : i + 9 ≤ X.1) (hL : X.1 ≤ 4608) (hg : ∀ I R J, Rel (I, R, J) → zw_V X M_L_law 1300 199 25592 0 P (1107) 199 25592 [.ref 1012, .ref 1, .ref 148, .int (nI i)] [] (I, R, J)) (I : zI) (R : zR) (J : zJ) (hR : Rel (I, R, J)) : zw_V X M_L_law 1300 199 25592 0 P (156) 199 25592 [.ref 1012, .ref 1, .ref 148, .int (nI i)] [] (I, R, J) := by
  obtain ⟨r, I1, I2, h1, h2, hR⟩ := hE I R J (X.2 (Int32.toNatClampNeg (nI i + 1))) (X.2 (Int32.toNatClampNeg (nI i + 2))) (X.2 (Int32.toNatClampNeg (nI i + 3))) (X.2 (Int32.toNatClampNeg (nI i + 4))) (X.2 (Int32.toNatClampNeg (nI i + 5))) hR
  refine zv_aload_n (pc := 156) d_L_law_156 rfl ?_
  refine zv_aload_n (pc := 157) d_L_law_157 rfl ?_
  refine zv_iload_n (pc := 158) d_L_law_158 rfl ?_
  refine zv_iconst (pc := 159) d_L_law_159 zc_i_1 ?_
  refine zv_iadd (pc := 160) d_L_law_160 ?_
  refine zv_xald (pc := 161) d_L_law_161 (zl_in 1 rfl hi (by decide) hL) ?_
  refine zv_aload_n (pc := 162) d_L_law_162 rfl ?_
  refine zv_iload_n (pc := 163) d_L_law_163 rfl ?_
  refine zv_iconst (pc := 164) d_L_law_164 zc_i_2 ?_
  refine zv_iadd (pc := 165) d_L_law_165 ?_
  refine zv_xald (pc := 166) d_L_law_166 (zl_in 2 rfl hi (by decide) hL) ?_
  refine zv_aload_n (pc := 167) d_L_law_167 rfl ?_
  refine zv_iload_n (pc := 168) d_L_law_168 rfl ?_
  refine zv_iconst (pc := 169) d_L_law_169 zc_i_3 ?_
  refine zv_iadd (pc := 170) d_L_law_170 ?_
  refine zv_xald (pc := 171) d_L_law_171 (zl_in 3 rfl hi (by decide) hL) ?_
  refine zv_aload_n (pc := 172) d_L_law_172 rfl ?_
  refine zv_iload_n (pc := 173) d_L_law_173 rfl ?_
  refine zv_iconst (pc := 174) d_L_law_174 zc_i_4 ?_
  refine zv_iadd (pc := 175) d_L_law_175 ?_
  refine zv_xald (pc := 176) d_L_law_176 (zl_in 4 rfl hi (by decide) hL) ?_
  refine zv_aload_n (pc := 177) d_L_law_177 rfl ?_
  refine zv_iload_n (pc := 178) d_L_law_178 rfl ?_
  refine zv_iconst (pc := 179) d_L_law_179 zc_i_5 ?_
  refine zv_iadd (pc := 180) d_L_law_180 ?_
  refine zv_xald (pc := 181) d_L_law_181 (zl_in 5 rfl hi (by decide) hL) ?_
  refine zv_callV (pc := 182) (As := [.int (X.2 (Int32.toNatClampNeg ((nI i) + 1))), .int (X.2 (Int32.toNatClampNeg ((nI i) + 2))), .int (X.2 (Int32.toNatClampNeg ((nI i) + 3))), .int (X.2 (Int32.toNatClampNeg ((nI i) + 4))), .int (X.2 (Int32.toNatClampNeg ((nI i) + 5)))]) (o := 1) (st := []) (d2 := 1) (mc2 := 0) (ms2 := 0) (M2 := M_X10_feed) (R2 := fun q S => q = some (.int r) ∧ S = (I1, R, J)) d_L_law_182 (zw_mG (List.mem_of_getElem? (i := 521) (by decide +kernel)) rfl) ce_X10_feed (Or.inl ⟨10, _, by decide, by decide, by decide +kernel, rfl, rfl⟩) (Nat.le_of_ble_eq_true rfl) rfl (Nat.le_of_ble_eq_true rfl) (by decide) ⟨by decide, by decide⟩ (by decide) (c_X10_feed X 1 (X.2 (Int32.toNatClampNeg ((nI i) + 1))) (X.2 (Int32.toNatClampNeg ((nI i) + 2))) (X.2 (Int32.toNatClampNeg ((nI i) + 3))) (X.2 (Int32.toNatClampNeg ((nI i) + 4))) (X.2 (Int32.toNatClampNeg ((nI i) + 5))) I R J _ h1 ⟨rfl, rfl⟩) ?_
  rintro _ _ ⟨rfl, rfl⟩
  show zw_V X M_L_law 1300 199 25592 0 P (182 + 3) 199 25592 [.ref 1012, .ref 1, .ref 148, .int (nI i)] [.int r] (I1, R, J)
  refine zv_aload_n (pc := 185) d_L_law_185 rfl ?_
  refine zv_aload_n (pc := 186) d_L_law_186 rfl ?_
  refine zv_iload_n (pc := 187) d_L_law_187 rfl ?_
  refine zv_iconst (pc := 188) d_L_law_188 zc_i_1 ?_
  refine zv_iadd (pc := 189) d_L_law_189 ?_
  refine zv_xald (pc := 190) d_L_law_190 (zl_in 1 rfl hi (by decide) hL) ?_
  refine zv_aload_n (pc := 191) d_L_law_191 rfl ?_
  refine zv_iload_n (pc := 192) d_L_law_192 rfl ?_
  refine zv_iconst (pc := 193) d_L_law_193 zc_i_2 ?_
  refine zv_iadd (pc := 194) d_L_law_194 ?_
  refine zv_xald (pc := 195) d_L_law_195 (zl_in 2 rfl hi (by decide) hL) ?_
  refine zv_aload_n (pc := 196) d_L_law_196 rfl ?_
  refine zv_iload_n (pc := 197) d_L_law_197 rfl ?_
  refine zv_iconst (pc := 198) d_L_law_198 zc_i_3 ?_
  refine zv_iadd (pc := 199) d_L_law_199 ?_
  refine zv_xald (pc := 200) d_L_law_200 (zl_in 3 rfl hi (by decide) hL) ?_
  refine zv_aload_n (pc := 201) d_L_law_201 rfl ?_
  refine zv_iload_n (pc := 202) d_L_law_202 rfl ?_
  refine zv_iconst (pc := 203) d_L_law_203 zc_i_4 ?_
  refine zv_iadd (pc := 204) d_L_law_204 ?_
  refine zv_xald (pc := 205) d_L_law_205 (zl_in 4 rfl hi (by decide) hL) ?_
  refine zv_aload_n (pc := 206) d_L_law_206 rfl ?_
  refine zv_iload_n (pc := 207) d_L_law_207 rfl ?_
  refine zv_iconst (pc := 208) d_L_law_208 zc_i_5 ?_
  refine zv_iadd (pc := 209) d_L_law_209 ?_
  refine zv_xald (pc := 210) d_L_law_210 (zl_in 5 rfl hi (by decide) hL) ?_
  refine zv_callV (pc := 211) (As := [.int (X.2 (Int32.toNatClampNeg ((nI i) + 1))), .int (X.2 (Int32.toNatClampNeg ((nI i) + 2))), .int (X.2 (Int32.toNatClampNeg ((nI i) + 3))), .int (X.2 (Int32.toNatClampNeg ((nI i) + 4))), .int (X.2 (Int32.toNatClampNeg ((nI i) + 5)))]) (o := 148) (st := [.int r]) (d2 := 1) (mc2 := 0) (ms2 := 0) (M2 := M_X11_feed) (R2 := fun q S => q = some (.int r) ∧ S = (I2, R, J)) d_L_law_211 (zw_mG (List.mem_of_getElem? (i := 1401) (by decide +kernel)) rfl) ce_X11_feed (Or.inl ⟨11, _, by decide, by decide, by decide +kernel, rfl, rfl⟩) (Nat.le_of_ble_eq_true rfl) rfl (Nat.le_of_ble_eq_true rfl) (by decide) ⟨by decide, by decide⟩ (by decide) (c_X11_feed X 148 (X.2 (Int32.toNatClampNeg ((nI i) + 1))) (X.2 (Int32.toNatClampNeg ((nI i) + 2))) (X.2 (Int32.toNatClampNeg ((nI i) + 3))) (X.2 (Int32.toNatClampNeg ((nI i) + 4))) (X.2 (Int32.toNatClampNeg ((nI i) + 5))) I1 R J _ h2 ⟨rfl, rfl⟩) ?_
  rintro _ _ ⟨rfl, rfl⟩
  show zw_V X M_L_law 1300 199 25592 0 P (211 + 3) 199 25592 [.ref 1012, .ref 1, .ref 148, .int (nI i)] [.int r, .int r] (I2, R, J)
  refine zv_icmp_eq (pc := 214) (tg := 1107) d_L_law_214 (by decide) (fun _ => ?_) (fun q => absurd rfl q)
  exact hg I2 R J hR
theorem zl_back {X : zw_X} {P : Option Value → aS → Prop} {Rel : aS → Prop} (hE : zE_back Rel) {i : Nat} (hi : i + 9 ≤ X.1) (hL : X.1 ≤ 4608) (hg : ∀ I R J, Rel (I, R, J) → zw_V X M_L_law 1300 199 25592 0 P (1107) 199 25592 [.ref 1012, .ref 1, .ref 148, .int (nI i)] [] (I, R, J)) (I : zI) (R : zR) (J : zJ) (hR : Rel (I, R, J)) : zw_V X M_L_law 1300 199 25592 0 P (219) 199 25592 [.ref 1012, .ref 1, .ref 148, .int (nI i)] [] (I, R, J) := by
  obtain ⟨r, I1, I2, h1, h2, hR⟩ := hE I R J (X.2 (Int32.toNatClampNeg (nI i + 1))) hR
  refine zv_aload_n (pc := 219) d_L_law_219 rfl ?_
  refine zv_aload_n (pc := 220) d_L_law_220 rfl ?_
  refine zv_iload_n (pc := 221) d_L_law_221 rfl ?_
  refine zv_iconst (pc := 222) d_L_law_222 zc_i_1 ?_
  refine zv_iadd (pc := 223) d_L_law_223 ?_
  refine zv_xald (pc := 224) d_L_law_224 (zl_in 1 rfl hi (by decide) hL) ?_
  refine zv_callV (pc := 225) (As := [.int (X.2 (Int32.toNatClampNeg ((nI i) + 1)))]) (o := 1) (st := []) (d2 := 0) (mc2 := 0) (ms2 := 0) (M2 := M_X10_back) (R2 := fun q S => q = some (.int r) ∧ S = (I1, R, J)) d_L_law_225 (zw_mG (List.mem_of_getElem? (i := 529) (by decide +kernel)) rfl) ce_X10_back (Or.inl ⟨10, _, by decide, by decide, by decide +kernel, rfl, rfl⟩) (Nat.le_of_ble_eq_true rfl) rfl (Nat.le_of_ble_eq_true rfl) (by decide) ⟨by decide, by decide⟩ (by decide) (c_X10_back X 1 (X.2 (Int32.toNatClampNeg ((nI i) + 1))) I R J _ h1 ⟨rfl, rfl⟩) ?_
  rintro _ _ ⟨rfl, rfl⟩
  show zw_V X M_L_law 1300 199 25592 0 P (225 + 3) 199 25592 [.ref 1012, .ref 1, .ref 148, .int (nI i)] [.int r] (I1, R, J)
  refine zv_aload_n (pc := 228) d_L_law_228 rfl ?_
  refine zv_aload_n (pc := 229) d_L_law_229 rfl ?_
  refine zv_iload_n (pc := 230) d_L_law_230 rfl ?_
  refine zv_iconst (pc := 231) d_L_law_231 zc_i_1 ?_
  refine zv_iadd (pc := 232) d_L_law_232 ?_
  refine zv_xald (pc := 233) d_L_law_233 (zl_in 1 rfl hi (by decide) hL) ?_
  refine zv_callV (pc := 234) (As := [.int (X.2 (Int32.toNatClampNeg ((nI i) + 1)))]) (o := 148) (st := [.int r]) (d2 := 0) (mc2 := 0) (ms2 := 0) (M2 := M_X11_back) (R2 := fun q S => q = some (.int r) ∧ S = (I2, R, J)) d_L_law_234 (zw_mG (List.mem_of_getElem? (i := 1409) (by decide +kernel)) rfl) ce_X11_back (Or.inl ⟨11, _, by decide, by decide, by decide +kernel, rfl, rfl⟩) (Nat.le_of_ble_eq_true rfl) rfl (Nat.le_of_ble_eq_true rfl) (by decide) ⟨by decide, by decide⟩ (by decide) (c_X11_back X 148 (X.2 (Int32.toNatClampNeg ((nI i) + 1))) I1 R J _ h2 ⟨rfl, rfl⟩) ?_
  rintro _ _ ⟨rfl, rfl⟩
  show zw_V X M_L_law 1300 199 25592 0 P (234 + 3) 199 25592 [.ref 1012, .ref 1, .ref 148, .int (nI i)] [.int r, .int r] (I2, R, J)
  refine zv_icmp_eq (pc := 237) (tg := 1107) d_L_law_237 (by decide) (fun _ => ?_) (fun q => absurd rfl q)
  exact hg I2 R J hR
theorem zl_read {X : zw_X} {P : Option Value → aS → Prop} {Rel : aS → Prop} (hE : zE_read Rel) {i : Nat} (hi : i + 9 ≤ X.1) (hL : X.1 ≤ 4608) (hg : ∀ I R J, Rel (I, R, J) → zw_V X M_L_law 1300 199 25592 0 P (1107) 199 25592 [.ref 1012, .ref 1, .ref 148, .int (nI i)] [] (I, R, J)) (I : zI) (R : zR) (J : zJ) (hR : Rel (I, R, J)) : zw_V X M_L_law 1300 199 25592 0 P (242) 199 25592 [.ref 1012, .ref 1, .ref 148, .int (nI i)] [] (I, R, J) := by
  obtain ⟨r, I1, R1, J1, I2, J2, h1, h2, hR⟩ := hE I R J  hR
  refine zv_aload_n (pc := 242) d_L_law_242 rfl ?_
  refine zv_callV (pc := 243) (As := []) (o := 1) (st := []) (d2 := 22) (mc2 := 0) (ms2 := 0) (M2 := M_X10_read) (R2 := fun q S => q = some (.int r) ∧ S = (I1, R1, J1)) d_L_law_243 (zw_mG (List.mem_of_getElem? (i := 533) (by decide +kernel)) rfl) ce_X10_read (Or.inl ⟨10, _, by decide, by decide, by decide +kernel, rfl, rfl⟩) (Nat.le_of_ble_eq_true rfl) rfl (Nat.le_of_ble_eq_true rfl) (by decide) ⟨by decide, by decide⟩ (by decide) (c_X10_read X 1  I R J _ h1 ⟨rfl, rfl⟩) ?_
  rintro _ _ ⟨rfl, rfl⟩
  show zw_V X M_L_law 1300 199 25592 0 P (243 + 3) 199 25592 [.ref 1012, .ref 1, .ref 148, .int (nI i)] [.int r] (I1, R1, J1)
  refine zv_aload_n (pc := 246) d_L_law_246 rfl ?_
  refine zv_callV (pc := 247) (As := []) (o := 148) (st := [.int r]) (d2 := 7) (mc2 := 0) (ms2 := 0) (M2 := M_X11_read) (R2 := fun q S => q = some (.int r) ∧ S = (I2, R1, J2)) d_L_law_247 (zw_mG (List.mem_of_getElem? (i := 1413) (by decide +kernel)) rfl) ce_X11_read (Or.inl ⟨11, _, by decide, by decide, by decide +kernel, rfl, rfl⟩) (Nat.le_of_ble_eq_true rfl) rfl (Nat.le_of_ble_eq_true rfl) (by decide) ⟨by decide, by decide⟩ (by decide) (c_X11_read X 148  I1 R1 J1 _ h2 ⟨rfl, rfl⟩) ?_
  rintro _ _ ⟨rfl, rfl⟩
  show zw_V X M_L_law 1300 199 25592 0 P (247 + 3) 199 25592 [.ref 1012, .ref 1, .ref 148, .int (nI i)] [.int r, .int r] (I2, R1, J2)
  refine zv_icmp_eq (pc := 250) (tg := 1107) d_L_law_250 (by decide) (fun _ => ?_) (fun q => absurd rfl q)
  exact hg I2 R1 J2 hR
theorem zl_place {X : zw_X} {P : Option Value → aS → Prop} {Rel : aS → Prop} (hE : zE_place Rel) {i : Nat} (hi : i + 9 ≤ X.1) (hL : X.1 ≤ 4608) (hg : ∀ I R J, Rel (I, R, J) → zw_V X M_L_law 1300 199 25592 0 P (1107) 199 25592 [.ref 1012, .ref 1, .ref 148, .int (nI i)] [] (I, R, J)) (I : zI) (R : zR) (J : zJ) (hR : Rel (I, R, J)) : zw_V X M_L_law 1300 199 25592 0 P (255) 199 25592 [.ref 1012, .ref 1, .ref 148, .int (nI i)] [] (I, R, J) := by
  obtain ⟨r, h1, h2, hR⟩ := hE I R J  hR
  refine zv_aload_n (pc := 255) d_L_law_255 rfl ?_
  refine zv_callV (pc := 256) (As := []) (o := 1) (st := []) (d2 := 0) (mc2 := 0) (ms2 := 0) (M2 := M_X10_place) (R2 := fun q S => q = some (.int r) ∧ S = (I, R, J)) d_L_law_256 (zw_mG (List.mem_of_getElem? (i := 833) (by decide +kernel)) rfl) ce_X10_place (Or.inl ⟨10, _, by decide, by decide, by decide +kernel, rfl, rfl⟩) (Nat.le_of_ble_eq_true rfl) rfl (Nat.le_of_ble_eq_true rfl) (by decide) ⟨by decide, by decide⟩ (by decide) (c_X10_place X 1  I R J _ h1 ⟨rfl, rfl⟩) ?_
  rintro _ _ ⟨rfl, rfl⟩
  show zw_V X M_L_law 1300 199 25592 0 P (256 + 3) 199 25592 [.ref 1012, .ref 1, .ref 148, .int (nI i)] [.int r] (I, R, J)
  refine zv_aload_n (pc := 259) d_L_law_259 rfl ?_
  refine zv_callV (pc := 260) (As := []) (o := 148) (st := [.int r]) (d2 := 0) (mc2 := 0) (ms2 := 0) (M2 := M_X11_place) (R2 := fun q S => q = some (.int r) ∧ S = (I, R, J)) d_L_law_260 (zw_mG (List.mem_of_getElem? (i := 1506) (by decide +kernel)) rfl) ce_X11_place (Or.inl ⟨11, _, by decide, by decide, by decide +kernel, rfl, rfl⟩) (Nat.le_of_ble_eq_true rfl) rfl (Nat.le_of_ble_eq_true rfl) (by decide) ⟨by decide, by decide⟩ (by decide) (c_X11_place X 148  I R J _ h2 ⟨rfl, rfl⟩) ?_
  rintro _ _ ⟨rfl, rfl⟩
  show zw_V X M_L_law 1300 199 25592 0 P (260 + 3) 199 25592 [.ref 1012, .ref 1, .ref 148, .int (nI i)] [.int r, .int r] (I, R, J)
  refine zv_icmp_eq (pc := 263) (tg := 1107) d_L_law_263 (by decide) (fun _ => ?_) (fun q => absurd rfl q)
  exact hg I R J hR
theorem zl_weight {X : zw_X} {P : Option Value → aS → Prop} {Rel : aS → Prop} (hE : zE_weight Rel) {i : Nat} (hi : i + 9 ≤ X.1) (hL : X.1 ≤ 4608) (hg : ∀ I R J, Rel (I, R, J) → zw_V X M_L_law 1300 199 25592 0 P (1107) 199 25592 [.ref 1012, .ref 1, .ref 148, .int (nI i)] [] (I, R, J)) (I : zI) (R : zR) (J : zJ) (hR : Rel (I, R, J)) : zw_V X M_L_law 1300 199 25592 0 P (268) 199 25592 [.ref 1012, .ref 1, .ref 148, .int (nI i)] [] (I, R, J) := by
  by_cases hb : X.2 (Int32.toNatClampNeg (nI i + 1)) = 0
  ·
    obtain ⟨r, h1, h2, hR⟩ := hE I R J 0 (X.2 (Int32.toNatClampNeg (nI i + 2))) (Or.inl rfl) hR
    refine zv_aload_n (pc := 268) d_L_law_268 rfl ?_
    refine zv_aload_n (pc := 269) d_L_law_269 rfl ?_
    refine zv_iload_n (pc := 270) d_L_law_270 rfl ?_
    refine zv_iconst (pc := 271) d_L_law_271 zc_i_1 ?_
    refine zv_iadd (pc := 272) d_L_law_272 ?_
    refine zv_xald (pc := 273) d_L_law_273 (zl_in 1 rfl hi (by decide) hL) ?_
    refine zv_if_eq (pc := 274) (tg := 281) d_L_law_274 (by decide) (fun _ => ?_) (fun q => absurd hb q)
    refine zv_iconst (pc := 281) d_L_law_281 zc_i_0 ?_
    refine zv_aload_n (pc := 282) d_L_law_282 rfl ?_
    refine zv_iload_n (pc := 283) d_L_law_283 rfl ?_
    refine zv_iconst (pc := 284) d_L_law_284 zc_i_2 ?_
    refine zv_iadd (pc := 285) d_L_law_285 ?_
    refine zv_xald (pc := 286) d_L_law_286 (zl_in 2 rfl hi (by decide) hL) ?_
    refine zv_callV (pc := 287) (As := [.int 0, .int (X.2 (Int32.toNatClampNeg ((nI i) + 2)))]) (o := 1) (st := []) (d2 := 2) (mc2 := 0) (ms2 := 0) (M2 := M_X10_weight) (R2 := fun q S => q = some (.int r) ∧ S = (I, R, J)) d_L_law_287 (zw_mG (List.mem_of_getElem? (i := 837) (by decide +kernel)) rfl) ce_X10_weight (Or.inl ⟨10, _, by decide, by decide, by decide +kernel, rfl, rfl⟩) (Nat.le_of_ble_eq_true rfl) rfl (Nat.le_of_ble_eq_true rfl) (by decide) ⟨by decide, by decide⟩ (by decide) (c_X10_weight X 1 0 (X.2 (Int32.toNatClampNeg ((nI i) + 2))) I R J _ h1 ⟨rfl, rfl⟩) ?_
    rintro _ _ ⟨rfl, rfl⟩
    show zw_V X M_L_law 1300 199 25592 0 P (287 + 3) 199 25592 [.ref 1012, .ref 1, .ref 148, .int (nI i)] [.int r] (I, R, J)
    refine zv_aload_n (pc := 290) d_L_law_290 rfl ?_
    refine zv_aload_n (pc := 291) d_L_law_291 rfl ?_
    refine zv_iload_n (pc := 292) d_L_law_292 rfl ?_
    refine zv_iconst (pc := 293) d_L_law_293 zc_i_1 ?_
    refine zv_iadd (pc := 294) d_L_law_294 ?_
    refine zv_xald (pc := 295) d_L_law_295 (zl_in 1 rfl hi (by decide) hL) ?_
    refine zv_if_eq (pc := 296) (tg := 303) d_L_law_296 (by decide) (fun _ => ?_) (fun q => absurd hb q)
    refine zv_iconst (pc := 303) d_L_law_303 zc_i_0 ?_
    refine zv_aload_n (pc := 304) d_L_law_304 rfl ?_
    refine zv_iload_n (pc := 305) d_L_law_305 rfl ?_
    refine zv_iconst (pc := 306) d_L_law_306 zc_i_2 ?_
    refine zv_iadd (pc := 307) d_L_law_307 ?_
    refine zv_xald (pc := 308) d_L_law_308 (zl_in 2 rfl hi (by decide) hL) ?_
    refine zv_callV (pc := 309) (As := [.int 0, .int (X.2 (Int32.toNatClampNeg ((nI i) + 2)))]) (o := 148) (st := [.int r]) (d2 := 3) (mc2 := 0) (ms2 := 0) (M2 := M_X11_weight) (R2 := fun q S => q = some (.int r) ∧ S = (I, R, J)) d_L_law_309 (zw_mG (List.mem_of_getElem? (i := 1510) (by decide +kernel)) rfl) ce_X11_weight (Or.inl ⟨11, _, by decide, by decide, by decide +kernel, rfl, rfl⟩) (Nat.le_of_ble_eq_true rfl) rfl (Nat.le_of_ble_eq_true rfl) (by decide) ⟨by decide, by decide⟩ (by decide) (c_X11_weight X 148 0 (X.2 (Int32.toNatClampNeg ((nI i) + 2))) I R J _ h2 ⟨rfl, rfl⟩) ?_
    rintro _ _ ⟨rfl, rfl⟩
    show zw_V X M_L_law 1300 199 25592 0 P (309 + 3) 199 25592 [.ref 1012, .ref 1, .ref 148, .int (nI i)] [.int r, .int r] (I, R, J)
    refine zv_icmp_eq (pc := 312) (tg := 1107) d_L_law_312 (by decide) (fun _ => ?_) (fun q => absurd rfl q)
    exact hg I R J hR
  ·
    obtain ⟨r, h1, h2, hR⟩ := hE I R J 1 (X.2 (Int32.toNatClampNeg (nI i + 2))) (Or.inr rfl) hR
    refine zv_aload_n (pc := 268) d_L_law_268 rfl ?_
    refine zv_aload_n (pc := 269) d_L_law_269 rfl ?_
    refine zv_iload_n (pc := 270) d_L_law_270 rfl ?_
    refine zv_iconst (pc := 271) d_L_law_271 zc_i_1 ?_
    refine zv_iadd (pc := 272) d_L_law_272 ?_
    refine zv_xald (pc := 273) d_L_law_273 (zl_in 1 rfl hi (by decide) hL) ?_
    refine zv_if_eq (pc := 274) (tg := 281) d_L_law_274 (by decide) (fun q => absurd q hb) (fun _ => ?_)
    refine zv_iconst (pc := 277) d_L_law_277 zc_i_1 ?_
    refine zv_goto (pc := 278) (tg := 282) d_L_law_278 (by decide) ?_
    refine zv_aload_n (pc := 282) d_L_law_282 rfl ?_
    refine zv_iload_n (pc := 283) d_L_law_283 rfl ?_
    refine zv_iconst (pc := 284) d_L_law_284 zc_i_2 ?_
    refine zv_iadd (pc := 285) d_L_law_285 ?_
    refine zv_xald (pc := 286) d_L_law_286 (zl_in 2 rfl hi (by decide) hL) ?_
    refine zv_callV (pc := 287) (As := [.int 1, .int (X.2 (Int32.toNatClampNeg ((nI i) + 2)))]) (o := 1) (st := []) (d2 := 2) (mc2 := 0) (ms2 := 0) (M2 := M_X10_weight) (R2 := fun q S => q = some (.int r) ∧ S = (I, R, J)) d_L_law_287 (zw_mG (List.mem_of_getElem? (i := 837) (by decide +kernel)) rfl) ce_X10_weight (Or.inl ⟨10, _, by decide, by decide, by decide +kernel, rfl, rfl⟩) (Nat.le_of_ble_eq_true rfl) rfl (Nat.le_of_ble_eq_true rfl) (by decide) ⟨by decide, by decide⟩ (by decide) (c_X10_weight X 1 1 (X.2 (Int32.toNatClampNeg ((nI i) + 2))) I R J _ h1 ⟨rfl, rfl⟩) ?_
    rintro _ _ ⟨rfl, rfl⟩
    show zw_V X M_L_law 1300 199 25592 0 P (287 + 3) 199 25592 [.ref 1012, .ref 1, .ref 148, .int (nI i)] [.int r] (I, R, J)
    refine zv_aload_n (pc := 290) d_L_law_290 rfl ?_
    refine zv_aload_n (pc := 291) d_L_law_291 rfl ?_
    refine zv_iload_n (pc := 292) d_L_law_292 rfl ?_
    refine zv_iconst (pc := 293) d_L_law_293 zc_i_1 ?_
    refine zv_iadd (pc := 294) d_L_law_294 ?_
    refine zv_xald (pc := 295) d_L_law_295 (zl_in 1 rfl hi (by decide) hL) ?_
    refine zv_if_eq (pc := 296) (tg := 303) d_L_law_296 (by decide) (fun q => absurd q hb) (fun _ => ?_)
    refine zv_iconst (pc := 299) d_L_law_299 zc_i_1 ?_
    refine zv_goto (pc := 300) (tg := 304) d_L_law_300 (by decide) ?_
    refine zv_aload_n (pc := 304) d_L_law_304 rfl ?_
    refine zv_iload_n (pc := 305) d_L_law_305 rfl ?_
    refine zv_iconst (pc := 306) d_L_law_306 zc_i_2 ?_
    refine zv_iadd (pc := 307) d_L_law_307 ?_
    refine zv_xald (pc := 308) d_L_law_308 (zl_in 2 rfl hi (by decide) hL) ?_
    refine zv_callV (pc := 309) (As := [.int 1, .int (X.2 (Int32.toNatClampNeg ((nI i) + 2)))]) (o := 148) (st := [.int r]) (d2 := 3) (mc2 := 0) (ms2 := 0) (M2 := M_X11_weight) (R2 := fun q S => q = some (.int r) ∧ S = (I, R, J)) d_L_law_309 (zw_mG (List.mem_of_getElem? (i := 1510) (by decide +kernel)) rfl) ce_X11_weight (Or.inl ⟨11, _, by decide, by decide, by decide +kernel, rfl, rfl⟩) (Nat.le_of_ble_eq_true rfl) rfl (Nat.le_of_ble_eq_true rfl) (by decide) ⟨by decide, by decide⟩ (by decide) (c_X11_weight X 148 1 (X.2 (Int32.toNatClampNeg ((nI i) + 2))) I R J _ h2 ⟨rfl, rfl⟩) ?_
    rintro _ _ ⟨rfl, rfl⟩
    show zw_V X M_L_law 1300 199 25592 0 P (309 + 3) 199 25592 [.ref 1012, .ref 1, .ref 148, .int (nI i)] [.int r, .int r] (I, R, J)
    refine zv_icmp_eq (pc := 312) (tg := 1107) d_L_law_312 (by decide) (fun _ => ?_) (fun q => absurd rfl q)
    exact hg I R J hR
theorem zl_cell {X : zw_X} {P : Option Value → aS → Prop} {Rel : aS → Prop} (hE : zE_cell Rel) {i : Nat} (hi : i + 9 ≤ X.1) (hL : X.1 ≤ 4608) (hg : ∀ I R J, Rel (I, R, J) → zw_V X M_L_law 1300 199 25592 0 P (1107) 199 25592 [.ref 1012, .ref 1, .ref 148, .int (nI i)] [] (I, R, J)) (I : zI) (R : zR) (J : zJ) (hR : Rel (I, R, J)) : zw_V X M_L_law 1300 199 25592 0 P (317) 199 25592 [.ref 1012, .ref 1, .ref 148, .int (nI i)] [] (I, R, J) := by
  by_cases hb : X.2 (Int32.toNatClampNeg (nI i + 1)) = 0
  ·
    obtain ⟨r, h1, h2, hR⟩ := hE I R J 0 (X.2 (Int32.toNatClampNeg (nI i + 2))) (X.2 (Int32.toNatClampNeg (nI i + 3))) (X.2 (Int32.toNatClampNeg (nI i + 4))) (Or.inl rfl) hR
    refine zv_aload_n (pc := 317) d_L_law_317 rfl ?_
    refine zv_aload_n (pc := 318) d_L_law_318 rfl ?_
    refine zv_iload_n (pc := 319) d_L_law_319 rfl ?_
    refine zv_iconst (pc := 320) d_L_law_320 zc_i_1 ?_
    refine zv_iadd (pc := 321) d_L_law_321 ?_
    refine zv_xald (pc := 322) d_L_law_322 (zl_in 1 rfl hi (by decide) hL) ?_
    refine zv_if_eq (pc := 323) (tg := 330) d_L_law_323 (by decide) (fun _ => ?_) (fun q => absurd hb q)
    refine zv_iconst (pc := 330) d_L_law_330 zc_i_0 ?_
    refine zv_aload_n (pc := 331) d_L_law_331 rfl ?_
    refine zv_iload_n (pc := 332) d_L_law_332 rfl ?_
    refine zv_iconst (pc := 333) d_L_law_333 zc_i_2 ?_
    refine zv_iadd (pc := 334) d_L_law_334 ?_
    refine zv_xald (pc := 335) d_L_law_335 (zl_in 2 rfl hi (by decide) hL) ?_
    refine zv_aload_n (pc := 336) d_L_law_336 rfl ?_
    refine zv_iload_n (pc := 337) d_L_law_337 rfl ?_
    refine zv_iconst (pc := 338) d_L_law_338 zc_i_3 ?_
    refine zv_iadd (pc := 339) d_L_law_339 ?_
    refine zv_xald (pc := 340) d_L_law_340 (zl_in 3 rfl hi (by decide) hL) ?_
    refine zv_aload_n (pc := 341) d_L_law_341 rfl ?_
    refine zv_iload_n (pc := 342) d_L_law_342 rfl ?_
    refine zv_iconst (pc := 343) d_L_law_343 zc_i_4 ?_
    refine zv_iadd (pc := 344) d_L_law_344 ?_
    refine zv_xald (pc := 345) d_L_law_345 (zl_in 4 rfl hi (by decide) hL) ?_
    refine zv_callV (pc := 346) (As := [.int 0, .int (X.2 (Int32.toNatClampNeg ((nI i) + 2))), .int (X.2 (Int32.toNatClampNeg ((nI i) + 3))), .int (X.2 (Int32.toNatClampNeg ((nI i) + 4)))]) (o := 1) (st := []) (d2 := 2) (mc2 := 0) (ms2 := 0) (M2 := M_X10_cell) (R2 := fun q S => q = some (.int r) ∧ S = (I, R, J)) d_L_law_346 (zw_mG (List.mem_of_getElem? (i := 857) (by decide +kernel)) rfl) ce_X10_cell (Or.inl ⟨10, _, by decide, by decide, by decide +kernel, rfl, rfl⟩) (Nat.le_of_ble_eq_true rfl) rfl (Nat.le_of_ble_eq_true rfl) (by decide) ⟨by decide, by decide⟩ (by decide) (c_X10_cell X 1 0 (X.2 (Int32.toNatClampNeg ((nI i) + 2))) (X.2 (Int32.toNatClampNeg ((nI i) + 3))) (X.2 (Int32.toNatClampNeg ((nI i) + 4))) I R J _ h1 ⟨rfl, rfl⟩) ?_
    rintro _ _ ⟨rfl, rfl⟩
    show zw_V X M_L_law 1300 199 25592 0 P (346 + 3) 199 25592 [.ref 1012, .ref 1, .ref 148, .int (nI i)] [.int r] (I, R, J)
    refine zv_aload_n (pc := 349) d_L_law_349 rfl ?_
    refine zv_aload_n (pc := 350) d_L_law_350 rfl ?_
    refine zv_iload_n (pc := 351) d_L_law_351 rfl ?_
    refine zv_iconst (pc := 352) d_L_law_352 zc_i_1 ?_
    refine zv_iadd (pc := 353) d_L_law_353 ?_
    refine zv_xald (pc := 354) d_L_law_354 (zl_in 1 rfl hi (by decide) hL) ?_
    refine zv_if_eq (pc := 355) (tg := 362) d_L_law_355 (by decide) (fun _ => ?_) (fun q => absurd hb q)
    refine zv_iconst (pc := 362) d_L_law_362 zc_i_0 ?_
    refine zv_aload_n (pc := 363) d_L_law_363 rfl ?_
    refine zv_iload_n (pc := 364) d_L_law_364 rfl ?_
    refine zv_iconst (pc := 365) d_L_law_365 zc_i_2 ?_
    refine zv_iadd (pc := 366) d_L_law_366 ?_
    refine zv_xald (pc := 367) d_L_law_367 (zl_in 2 rfl hi (by decide) hL) ?_
    refine zv_aload_n (pc := 368) d_L_law_368 rfl ?_
    refine zv_iload_n (pc := 369) d_L_law_369 rfl ?_
    refine zv_iconst (pc := 370) d_L_law_370 zc_i_3 ?_
    refine zv_iadd (pc := 371) d_L_law_371 ?_
    refine zv_xald (pc := 372) d_L_law_372 (zl_in 3 rfl hi (by decide) hL) ?_
    refine zv_aload_n (pc := 373) d_L_law_373 rfl ?_
    refine zv_iload_n (pc := 374) d_L_law_374 rfl ?_
    refine zv_iconst (pc := 375) d_L_law_375 zc_i_4 ?_
    refine zv_iadd (pc := 376) d_L_law_376 ?_
    refine zv_xald (pc := 377) d_L_law_377 (zl_in 4 rfl hi (by decide) hL) ?_
    refine zv_callV (pc := 378) (As := [.int 0, .int (X.2 (Int32.toNatClampNeg ((nI i) + 2))), .int (X.2 (Int32.toNatClampNeg ((nI i) + 3))), .int (X.2 (Int32.toNatClampNeg ((nI i) + 4)))]) (o := 148) (st := [.int r]) (d2 := 3) (mc2 := 0) (ms2 := 0) (M2 := M_X11_cell) (R2 := fun q S => q = some (.int r) ∧ S = (I, R, J)) d_L_law_378 (zw_mG (List.mem_of_getElem? (i := 1537) (by decide +kernel)) rfl) ce_X11_cell (Or.inl ⟨11, _, by decide, by decide, by decide +kernel, rfl, rfl⟩) (Nat.le_of_ble_eq_true rfl) rfl (Nat.le_of_ble_eq_true rfl) (by decide) ⟨by decide, by decide⟩ (by decide) (c_X11_cell X 148 0 (X.2 (Int32.toNatClampNeg ((nI i) + 2))) (X.2 (Int32.toNatClampNeg ((nI i) + 3))) (X.2 (Int32.toNatClampNeg ((nI i) + 4))) I R J _ h2 ⟨rfl, rfl⟩) ?_
    rintro _ _ ⟨rfl, rfl⟩
    show zw_V X M_L_law 1300 199 25592 0 P (378 + 3) 199 25592 [.ref 1012, .ref 1, .ref 148, .int (nI i)] [.int r, .int r] (I, R, J)
    refine zv_icmp_eq (pc := 381) (tg := 1107) d_L_law_381 (by decide) (fun _ => ?_) (fun q => absurd rfl q)
    exact hg I R J hR
  ·
    obtain ⟨r, h1, h2, hR⟩ := hE I R J 1 (X.2 (Int32.toNatClampNeg (nI i + 2))) (X.2 (Int32.toNatClampNeg (nI i + 3))) (X.2 (Int32.toNatClampNeg (nI i + 4))) (Or.inr rfl) hR
    refine zv_aload_n (pc := 317) d_L_law_317 rfl ?_
    refine zv_aload_n (pc := 318) d_L_law_318 rfl ?_
    refine zv_iload_n (pc := 319) d_L_law_319 rfl ?_
    refine zv_iconst (pc := 320) d_L_law_320 zc_i_1 ?_
    refine zv_iadd (pc := 321) d_L_law_321 ?_
    refine zv_xald (pc := 322) d_L_law_322 (zl_in 1 rfl hi (by decide) hL) ?_
    refine zv_if_eq (pc := 323) (tg := 330) d_L_law_323 (by decide) (fun q => absurd q hb) (fun _ => ?_)
    refine zv_iconst (pc := 326) d_L_law_326 zc_i_1 ?_
    refine zv_goto (pc := 327) (tg := 331) d_L_law_327 (by decide) ?_
    refine zv_aload_n (pc := 331) d_L_law_331 rfl ?_
    refine zv_iload_n (pc := 332) d_L_law_332 rfl ?_
    refine zv_iconst (pc := 333) d_L_law_333 zc_i_2 ?_
    refine zv_iadd (pc := 334) d_L_law_334 ?_
    refine zv_xald (pc := 335) d_L_law_335 (zl_in 2 rfl hi (by decide) hL) ?_
    refine zv_aload_n (pc := 336) d_L_law_336 rfl ?_
    refine zv_iload_n (pc := 337) d_L_law_337 rfl ?_
    refine zv_iconst (pc := 338) d_L_law_338 zc_i_3 ?_
    refine zv_iadd (pc := 339) d_L_law_339 ?_
    refine zv_xald (pc := 340) d_L_law_340 (zl_in 3 rfl hi (by decide) hL) ?_
    refine zv_aload_n (pc := 341) d_L_law_341 rfl ?_
    refine zv_iload_n (pc := 342) d_L_law_342 rfl ?_
    refine zv_iconst (pc := 343) d_L_law_343 zc_i_4 ?_
    refine zv_iadd (pc := 344) d_L_law_344 ?_
    refine zv_xald (pc := 345) d_L_law_345 (zl_in 4 rfl hi (by decide) hL) ?_
    refine zv_callV (pc := 346) (As := [.int 1, .int (X.2 (Int32.toNatClampNeg ((nI i) + 2))), .int (X.2 (Int32.toNatClampNeg ((nI i) + 3))), .int (X.2 (Int32.toNatClampNeg ((nI i) + 4)))]) (o := 1) (st := []) (d2 := 2) (mc2 := 0) (ms2 := 0) (M2 := M_X10_cell) (R2 := fun q S => q = some (.int r) ∧ S = (I, R, J)) d_L_law_346 (zw_mG (List.mem_of_getElem? (i := 857) (by decide +kernel)) rfl) ce_X10_cell (Or.inl ⟨10, _, by decide, by decide, by decide +kernel, rfl, rfl⟩) (Nat.le_of_ble_eq_true rfl) rfl (Nat.le_of_ble_eq_true rfl) (by decide) ⟨by decide, by decide⟩ (by decide) (c_X10_cell X 1 1 (X.2 (Int32.toNatClampNeg ((nI i) + 2))) (X.2 (Int32.toNatClampNeg ((nI i) + 3))) (X.2 (Int32.toNatClampNeg ((nI i) + 4))) I R J _ h1 ⟨rfl, rfl⟩) ?_
    rintro _ _ ⟨rfl, rfl⟩
    show zw_V X M_L_law 1300 199 25592 0 P (346 + 3) 199 25592 [.ref 1012, .ref 1, .ref 148, .int (nI i)] [.int r] (I, R, J)
    refine zv_aload_n (pc := 349) d_L_law_349 rfl ?_
    refine zv_aload_n (pc := 350) d_L_law_350 rfl ?_
    refine zv_iload_n (pc := 351) d_L_law_351 rfl ?_
    refine zv_iconst (pc := 352) d_L_law_352 zc_i_1 ?_
    refine zv_iadd (pc := 353) d_L_law_353 ?_
    refine zv_xald (pc := 354) d_L_law_354 (zl_in 1 rfl hi (by decide) hL) ?_
    refine zv_if_eq (pc := 355) (tg := 362) d_L_law_355 (by decide) (fun q => absurd q hb) (fun _ => ?_)
    refine zv_iconst (pc := 358) d_L_law_358 zc_i_1 ?_
    refine zv_goto (pc := 359) (tg := 363) d_L_law_359 (by decide) ?_
    refine zv_aload_n (pc := 363) d_L_law_363 rfl ?_
    refine zv_iload_n (pc := 364) d_L_law_364 rfl ?_
    refine zv_iconst (pc := 365) d_L_law_365 zc_i_2 ?_
    refine zv_iadd (pc := 366) d_L_law_366 ?_
    refine zv_xald (pc := 367) d_L_law_367 (zl_in 2 rfl hi (by decide) hL) ?_
    refine zv_aload_n (pc := 368) d_L_law_368 rfl ?_
    refine zv_iload_n (pc := 369) d_L_law_369 rfl ?_
    refine zv_iconst (pc := 370) d_L_law_370 zc_i_3 ?_
    refine zv_iadd (pc := 371) d_L_law_371 ?_
    refine zv_xald (pc := 372) d_L_law_372 (zl_in 3 rfl hi (by decide) hL) ?_
    refine zv_aload_n (pc := 373) d_L_law_373 rfl ?_
    refine zv_iload_n (pc := 374) d_L_law_374 rfl ?_
    refine zv_iconst (pc := 375) d_L_law_375 zc_i_4 ?_
    refine zv_iadd (pc := 376) d_L_law_376 ?_
    refine zv_xald (pc := 377) d_L_law_377 (zl_in 4 rfl hi (by decide) hL) ?_
    refine zv_callV (pc := 378) (As := [.int 1, .int (X.2 (Int32.toNatClampNeg ((nI i) + 2))), .int (X.2 (Int32.toNatClampNeg ((nI i) + 3))), .int (X.2 (Int32.toNatClampNeg ((nI i) + 4)))]) (o := 148) (st := [.int r]) (d2 := 3) (mc2 := 0) (ms2 := 0) (M2 := M_X11_cell) (R2 := fun q S => q = some (.int r) ∧ S = (I, R, J)) d_L_law_378 (zw_mG (List.mem_of_getElem? (i := 1537) (by decide +kernel)) rfl) ce_X11_cell (Or.inl ⟨11, _, by decide, by decide, by decide +kernel, rfl, rfl⟩) (Nat.le_of_ble_eq_true rfl) rfl (Nat.le_of_ble_eq_true rfl) (by decide) ⟨by decide, by decide⟩ (by decide) (c_X11_cell X 148 1 (X.2 (Int32.toNatClampNeg ((nI i) + 2))) (X.2 (Int32.toNatClampNeg ((nI i) + 3))) (X.2 (Int32.toNatClampNeg ((nI i) + 4))) I R J _ h2 ⟨rfl, rfl⟩) ?_
    rintro _ _ ⟨rfl, rfl⟩
    show zw_V X M_L_law 1300 199 25592 0 P (378 + 3) 199 25592 [.ref 1012, .ref 1, .ref 148, .int (nI i)] [.int r, .int r] (I, R, J)
    refine zv_icmp_eq (pc := 381) (tg := 1107) d_L_law_381 (by decide) (fun _ => ?_) (fun q => absurd rfl q)
    exact hg I R J hR
theorem zl_even {X : zw_X} {P : Option Value → aS → Prop} {Rel : aS → Prop} (hE : zE_even Rel) {i : Nat} (hi : i + 9 ≤ X.1) (hL : X.1 ≤ 4608) (hg : ∀ I R J, Rel (I, R, J) → zw_V X M_L_law 1300 199 25592 0 P (1107) 199 25592 [.ref 1012, .ref 1, .ref 148, .int (nI i)] [] (I, R, J)) (I : zI) (R : zR) (J : zJ) (hR : Rel (I, R, J)) : zw_V X M_L_law 1300 199 25592 0 P (386) 199 25592 [.ref 1012, .ref 1, .ref 148, .int (nI i)] [] (I, R, J) := by
  obtain ⟨r, h1, h2, hR⟩ := hE I R J (X.2 (Int32.toNatClampNeg (nI i + 1))) hR
  refine zv_aload_n (pc := 386) d_L_law_386 rfl ?_
  refine zv_aload_n (pc := 387) d_L_law_387 rfl ?_
  refine zv_iload_n (pc := 388) d_L_law_388 rfl ?_
  refine zv_iconst (pc := 389) d_L_law_389 zc_i_1 ?_
  refine zv_iadd (pc := 390) d_L_law_390 ?_
  refine zv_xald (pc := 391) d_L_law_391 (zl_in 1 rfl hi (by decide) hL) ?_
  refine zv_callV (pc := 392) (As := [.int (X.2 (Int32.toNatClampNeg ((nI i) + 1)))]) (o := 1) (st := []) (d2 := 2) (mc2 := 0) (ms2 := 0) (M2 := M_X10_even) (R2 := fun q S => q = some (.int r) ∧ S = (I, R, J)) d_L_law_392 (zw_mG (List.mem_of_getElem? (i := 866) (by decide +kernel)) rfl) ce_X10_even (Or.inl ⟨10, _, by decide, by decide, by decide +kernel, rfl, rfl⟩) (Nat.le_of_ble_eq_true rfl) rfl (Nat.le_of_ble_eq_true rfl) (by decide) ⟨by decide, by decide⟩ (by decide) (c_X10_even X 1 (X.2 (Int32.toNatClampNeg ((nI i) + 1))) I R J _ h1 ⟨rfl, rfl⟩) ?_
  rintro _ _ ⟨rfl, rfl⟩
  show zw_V X M_L_law 1300 199 25592 0 P (392 + 3) 199 25592 [.ref 1012, .ref 1, .ref 148, .int (nI i)] [.int r] (I, R, J)
  refine zv_aload_n (pc := 395) d_L_law_395 rfl ?_
  refine zv_aload_n (pc := 396) d_L_law_396 rfl ?_
  refine zv_iload_n (pc := 397) d_L_law_397 rfl ?_
  refine zv_iconst (pc := 398) d_L_law_398 zc_i_1 ?_
  refine zv_iadd (pc := 399) d_L_law_399 ?_
  refine zv_xald (pc := 400) d_L_law_400 (zl_in 1 rfl hi (by decide) hL) ?_
  refine zv_callV (pc := 401) (As := [.int (X.2 (Int32.toNatClampNeg ((nI i) + 1)))]) (o := 148) (st := [.int r]) (d2 := 2) (mc2 := 0) (ms2 := 0) (M2 := M_X11_even) (R2 := fun q S => q = some (.int r) ∧ S = (I, R, J)) d_L_law_401 (zw_mG (List.mem_of_getElem? (i := 1541) (by decide +kernel)) rfl) ce_X11_even (Or.inl ⟨11, _, by decide, by decide, by decide +kernel, rfl, rfl⟩) (Nat.le_of_ble_eq_true rfl) rfl (Nat.le_of_ble_eq_true rfl) (by decide) ⟨by decide, by decide⟩ (by decide) (c_X11_even X 148 (X.2 (Int32.toNatClampNeg ((nI i) + 1))) I R J _ h2 ⟨rfl, rfl⟩) ?_
  rintro _ _ ⟨rfl, rfl⟩
  show zw_V X M_L_law 1300 199 25592 0 P (401 + 3) 199 25592 [.ref 1012, .ref 1, .ref 148, .int (nI i)] [.int r, .int r] (I, R, J)
  refine zv_icmp_eq (pc := 404) (tg := 1107) d_L_law_404 (by decide) (fun _ => ?_) (fun q => absurd rfl q)
  exact hg I R J hR
theorem zl_ray {X : zw_X} {P : Option Value → aS → Prop} {Rel : aS → Prop} (hE : zE_ray Rel) {i : Nat} (hi : i + 9 ≤ X.1) (hL : X.1 ≤ 4608) (hg : ∀ I R J, Rel (I, R, J) → zw_V X M_L_law 1300 199 25592 0 P (1107) 199 25592 [.ref 1012, .ref 1, .ref 148, .int (nI i)] [] (I, R, J)) (I : zI) (R : zR) (J : zJ) (hR : Rel (I, R, J)) : zw_V X M_L_law 1300 199 25592 0 P (409) 199 25592 [.ref 1012, .ref 1, .ref 148, .int (nI i)] [] (I, R, J) := by
  obtain ⟨r, I1, I2, h1, h2, hR⟩ := hE I R J (X.2 (Int32.toNatClampNeg (nI i + 1))) (X.2 (Int32.toNatClampNeg (nI i + 2))) (X.2 (Int32.toNatClampNeg (nI i + 3))) (X.2 (Int32.toNatClampNeg (nI i + 4))) (X.2 (Int32.toNatClampNeg (nI i + 5))) (X.2 (Int32.toNatClampNeg (nI i + 6))) hR
  refine zv_aload_n (pc := 409) d_L_law_409 rfl ?_
  refine zv_aload_n (pc := 410) d_L_law_410 rfl ?_
  refine zv_iload_n (pc := 411) d_L_law_411 rfl ?_
  refine zv_iconst (pc := 412) d_L_law_412 zc_i_1 ?_
  refine zv_iadd (pc := 413) d_L_law_413 ?_
  refine zv_xald (pc := 414) d_L_law_414 (zl_in 1 rfl hi (by decide) hL) ?_
  refine zv_aload_n (pc := 415) d_L_law_415 rfl ?_
  refine zv_iload_n (pc := 416) d_L_law_416 rfl ?_
  refine zv_iconst (pc := 417) d_L_law_417 zc_i_2 ?_
  refine zv_iadd (pc := 418) d_L_law_418 ?_
  refine zv_xald (pc := 419) d_L_law_419 (zl_in 2 rfl hi (by decide) hL) ?_
  refine zv_aload_n (pc := 420) d_L_law_420 rfl ?_
  refine zv_iload_n (pc := 421) d_L_law_421 rfl ?_
  refine zv_iconst (pc := 422) d_L_law_422 zc_i_3 ?_
  refine zv_iadd (pc := 423) d_L_law_423 ?_
  refine zv_xald (pc := 424) d_L_law_424 (zl_in 3 rfl hi (by decide) hL) ?_
  refine zv_aload_n (pc := 425) d_L_law_425 rfl ?_
  refine zv_iload_n (pc := 426) d_L_law_426 rfl ?_
  refine zv_iconst (pc := 427) d_L_law_427 zc_i_4 ?_
  refine zv_iadd (pc := 428) d_L_law_428 ?_
  refine zv_xald (pc := 429) d_L_law_429 (zl_in 4 rfl hi (by decide) hL) ?_
  refine zv_aload_n (pc := 430) d_L_law_430 rfl ?_
  refine zv_iload_n (pc := 431) d_L_law_431 rfl ?_
  refine zv_iconst (pc := 432) d_L_law_432 zc_i_5 ?_
  refine zv_iadd (pc := 433) d_L_law_433 ?_
  refine zv_xald (pc := 434) d_L_law_434 (zl_in 5 rfl hi (by decide) hL) ?_
  refine zv_aload_n (pc := 435) d_L_law_435 rfl ?_
  refine zv_iload_n (pc := 436) d_L_law_436 rfl ?_
  refine zv_bipush (pc := 437) d_L_law_437 zc_b_6 ?_
  refine zv_iadd (pc := 439) d_L_law_439 ?_
  refine zv_xald (pc := 440) d_L_law_440 (zl_in 6 rfl hi (by decide) hL) ?_
  refine zv_callV (pc := 441) (As := [.int (X.2 (Int32.toNatClampNeg ((nI i) + 1))), .int (X.2 (Int32.toNatClampNeg ((nI i) + 2))), .int (X.2 (Int32.toNatClampNeg ((nI i) + 3))), .int (X.2 (Int32.toNatClampNeg ((nI i) + 4))), .int (X.2 (Int32.toNatClampNeg ((nI i) + 5))), .int (X.2 (Int32.toNatClampNeg ((nI i) + 6)))]) (o := 1) (st := []) (d2 := 3) (mc2 := 0) (ms2 := 0) (M2 := M_X10_ray) (R2 := fun q S => q = some (.int r) ∧ S = (I1, R, J)) d_L_law_441 (zw_mG (List.mem_of_getElem? (i := 876) (by decide +kernel)) rfl) ce_X10_ray (Or.inl ⟨10, _, by decide, by decide, by decide +kernel, rfl, rfl⟩) (Nat.le_of_ble_eq_true rfl) rfl (Nat.le_of_ble_eq_true rfl) (by decide) ⟨by decide, by decide⟩ (by decide) (c_X10_ray X 1 (X.2 (Int32.toNatClampNeg ((nI i) + 1))) (X.2 (Int32.toNatClampNeg ((nI i) + 2))) (X.2 (Int32.toNatClampNeg ((nI i) + 3))) (X.2 (Int32.toNatClampNeg ((nI i) + 4))) (X.2 (Int32.toNatClampNeg ((nI i) + 5))) (X.2 (Int32.toNatClampNeg ((nI i) + 6))) I R J _ h1 ⟨rfl, rfl⟩) ?_
  rintro _ _ ⟨rfl, rfl⟩
  show zw_V X M_L_law 1300 199 25592 0 P (441 + 3) 199 25592 [.ref 1012, .ref 1, .ref 148, .int (nI i)] [.int r] (I1, R, J)
  refine zv_aload_n (pc := 444) d_L_law_444 rfl ?_
  refine zv_aload_n (pc := 445) d_L_law_445 rfl ?_
  refine zv_iload_n (pc := 446) d_L_law_446 rfl ?_
  refine zv_iconst (pc := 447) d_L_law_447 zc_i_1 ?_
  refine zv_iadd (pc := 448) d_L_law_448 ?_
  refine zv_xald (pc := 449) d_L_law_449 (zl_in 1 rfl hi (by decide) hL) ?_
  refine zv_aload_n (pc := 450) d_L_law_450 rfl ?_
  refine zv_iload_n (pc := 451) d_L_law_451 rfl ?_
  refine zv_iconst (pc := 452) d_L_law_452 zc_i_2 ?_
  refine zv_iadd (pc := 453) d_L_law_453 ?_
  refine zv_xald (pc := 454) d_L_law_454 (zl_in 2 rfl hi (by decide) hL) ?_
  refine zv_aload_n (pc := 455) d_L_law_455 rfl ?_
  refine zv_iload_n (pc := 456) d_L_law_456 rfl ?_
  refine zv_iconst (pc := 457) d_L_law_457 zc_i_3 ?_
  refine zv_iadd (pc := 458) d_L_law_458 ?_
  refine zv_xald (pc := 459) d_L_law_459 (zl_in 3 rfl hi (by decide) hL) ?_
  refine zv_aload_n (pc := 460) d_L_law_460 rfl ?_
  refine zv_iload_n (pc := 461) d_L_law_461 rfl ?_
  refine zv_iconst (pc := 462) d_L_law_462 zc_i_4 ?_
  refine zv_iadd (pc := 463) d_L_law_463 ?_
  refine zv_xald (pc := 464) d_L_law_464 (zl_in 4 rfl hi (by decide) hL) ?_
  refine zv_aload_n (pc := 465) d_L_law_465 rfl ?_
  refine zv_iload_n (pc := 466) d_L_law_466 rfl ?_
  refine zv_iconst (pc := 467) d_L_law_467 zc_i_5 ?_
  refine zv_iadd (pc := 468) d_L_law_468 ?_
  refine zv_xald (pc := 469) d_L_law_469 (zl_in 5 rfl hi (by decide) hL) ?_
  refine zv_aload_n (pc := 470) d_L_law_470 rfl ?_
  refine zv_iload_n (pc := 471) d_L_law_471 rfl ?_
  refine zv_bipush (pc := 472) d_L_law_472 zc_b_6 ?_
  refine zv_iadd (pc := 474) d_L_law_474 ?_
  refine zv_xald (pc := 475) d_L_law_475 (zl_in 6 rfl hi (by decide) hL) ?_
  refine zv_callV (pc := 476) (As := [.int (X.2 (Int32.toNatClampNeg ((nI i) + 1))), .int (X.2 (Int32.toNatClampNeg ((nI i) + 2))), .int (X.2 (Int32.toNatClampNeg ((nI i) + 3))), .int (X.2 (Int32.toNatClampNeg ((nI i) + 4))), .int (X.2 (Int32.toNatClampNeg ((nI i) + 5))), .int (X.2 (Int32.toNatClampNeg ((nI i) + 6)))]) (o := 148) (st := [.int r]) (d2 := 4) (mc2 := 0) (ms2 := 0) (M2 := M_X11_ray) (R2 := fun q S => q = some (.int r) ∧ S = (I2, R, J)) d_L_law_476 (zw_mG (List.mem_of_getElem? (i := 1548) (by decide +kernel)) rfl) ce_X11_ray (Or.inl ⟨11, _, by decide, by decide, by decide +kernel, rfl, rfl⟩) (Nat.le_of_ble_eq_true rfl) rfl (Nat.le_of_ble_eq_true rfl) (by decide) ⟨by decide, by decide⟩ (by decide) (c_X11_ray X 148 (X.2 (Int32.toNatClampNeg ((nI i) + 1))) (X.2 (Int32.toNatClampNeg ((nI i) + 2))) (X.2 (Int32.toNatClampNeg ((nI i) + 3))) (X.2 (Int32.toNatClampNeg ((nI i) + 4))) (X.2 (Int32.toNatClampNeg ((nI i) + 5))) (X.2 (Int32.toNatClampNeg ((nI i) + 6))) I1 R J _ h2 ⟨rfl, rfl⟩) ?_
  rintro _ _ ⟨rfl, rfl⟩
  show zw_V X M_L_law 1300 199 25592 0 P (476 + 3) 199 25592 [.ref 1012, .ref 1, .ref 148, .int (nI i)] [.int r, .int r] (I2, R, J)
  refine zv_icmp_eq (pc := 479) (tg := 1107) d_L_law_479 (by decide) (fun _ => ?_) (fun q => absurd rfl q)
  exact hg I2 R J hR
theorem zl_step {X : zw_X} {P : Option Value → aS → Prop} {Rel : aS → Prop} (hE : zE_step Rel) {i : Nat} (hi : i + 9 ≤ X.1) (hL : X.1 ≤ 4608) (hg : ∀ I R J, Rel (I, R, J) → zw_V X M_L_law 1300 199 25592 0 P (1107) 199 25592 [.ref 1012, .ref 1, .ref 148, .int (nI i)] [] (I, R, J)) (I : zI) (R : zR) (J : zJ) (hR : Rel (I, R, J)) : zw_V X M_L_law 1300 199 25592 0 P (484) 199 25592 [.ref 1012, .ref 1, .ref 148, .int (nI i)] [] (I, R, J) := by
  obtain ⟨r, h1, h2, hR⟩ := hE I R J (X.2 (Int32.toNatClampNeg (nI i + 1))) hR
  refine zv_aload_n (pc := 484) d_L_law_484 rfl ?_
  refine zv_aload_n (pc := 485) d_L_law_485 rfl ?_
  refine zv_iload_n (pc := 486) d_L_law_486 rfl ?_
  refine zv_iconst (pc := 487) d_L_law_487 zc_i_1 ?_
  refine zv_iadd (pc := 488) d_L_law_488 ?_
  refine zv_xald (pc := 489) d_L_law_489 (zl_in 1 rfl hi (by decide) hL) ?_
  refine zv_callV (pc := 490) (As := [.int (X.2 (Int32.toNatClampNeg ((nI i) + 1)))]) (o := 1) (st := []) (d2 := 0) (mc2 := 0) (ms2 := 0) (M2 := M_X10_step) (R2 := fun q S => q = some (.int r) ∧ S = (I, R, J)) d_L_law_490 (zw_mG (List.mem_of_getElem? (i := 922) (by decide +kernel)) rfl) ce_X10_step (Or.inl ⟨10, _, by decide, by decide, by decide +kernel, rfl, rfl⟩) (Nat.le_of_ble_eq_true rfl) rfl (Nat.le_of_ble_eq_true rfl) (by decide) ⟨by decide, by decide⟩ (by decide) (c_X10_step X 1 (X.2 (Int32.toNatClampNeg ((nI i) + 1))) I R J _ h1 ⟨rfl, rfl⟩) ?_
  rintro _ _ ⟨rfl, rfl⟩
  show zw_V X M_L_law 1300 199 25592 0 P (490 + 3) 199 25592 [.ref 1012, .ref 1, .ref 148, .int (nI i)] [.int r] (I, R, J)
  refine zv_aload_n (pc := 493) d_L_law_493 rfl ?_
  refine zv_aload_n (pc := 494) d_L_law_494 rfl ?_
  refine zv_iload_n (pc := 495) d_L_law_495 rfl ?_
  refine zv_iconst (pc := 496) d_L_law_496 zc_i_1 ?_
  refine zv_iadd (pc := 497) d_L_law_497 ?_
  refine zv_xald (pc := 498) d_L_law_498 (zl_in 1 rfl hi (by decide) hL) ?_
  refine zv_callV (pc := 499) (As := [.int (X.2 (Int32.toNatClampNeg ((nI i) + 1)))]) (o := 148) (st := [.int r]) (d2 := 1) (mc2 := 0) (ms2 := 0) (M2 := M_X11_step) (R2 := fun q S => q = some (.int r) ∧ S = (I, R, J)) d_L_law_499 (zw_mG (List.mem_of_getElem? (i := 1591) (by decide +kernel)) rfl) ce_X11_step (Or.inl ⟨11, _, by decide, by decide, by decide +kernel, rfl, rfl⟩) (Nat.le_of_ble_eq_true rfl) rfl (Nat.le_of_ble_eq_true rfl) (by decide) ⟨by decide, by decide⟩ (by decide) (c_X11_step X 148 (X.2 (Int32.toNatClampNeg ((nI i) + 1))) I R J _ h2 ⟨rfl, rfl⟩) ?_
  rintro _ _ ⟨rfl, rfl⟩
  show zw_V X M_L_law 1300 199 25592 0 P (499 + 3) 199 25592 [.ref 1012, .ref 1, .ref 148, .int (nI i)] [.int r, .int r] (I, R, J)
  refine zv_icmp_eq (pc := 502) (tg := 1107) d_L_law_502 (by decide) (fun _ => ?_) (fun q => absurd rfl q)
  exact hg I R J hR
theorem zl_spark {X : zw_X} {P : Option Value → aS → Prop} {Rel : aS → Prop} (hE : zE_spark Rel) {i : Nat} (hi : i + 9 ≤ X.1) (hL : X.1 ≤ 4608) (hg : ∀ I R J, Rel (I, R, J) → zw_V X M_L_law 1300 199 25592 0 P (1107) 199 25592 [.ref 1012, .ref 1, .ref 148, .int (nI i)] [] (I, R, J)) (I : zI) (R : zR) (J : zJ) (hR : Rel (I, R, J)) : zw_V X M_L_law 1300 199 25592 0 P (507) 199 25592 [.ref 1012, .ref 1, .ref 148, .int (nI i)] [] (I, R, J) := by
  obtain ⟨r, h1, h2, hR⟩ := hE I R J (X.2 (Int32.toNatClampNeg (nI i + 1))) hR
  refine zv_aload_n (pc := 507) d_L_law_507 rfl ?_
  refine zv_aload_n (pc := 508) d_L_law_508 rfl ?_
  refine zv_iload_n (pc := 509) d_L_law_509 rfl ?_
  refine zv_iconst (pc := 510) d_L_law_510 zc_i_1 ?_
  refine zv_iadd (pc := 511) d_L_law_511 ?_
  refine zv_xald (pc := 512) d_L_law_512 (zl_in 1 rfl hi (by decide) hL) ?_
  refine zv_callV (pc := 513) (As := [.int (X.2 (Int32.toNatClampNeg ((nI i) + 1)))]) (o := 1) (st := []) (d2 := 0) (mc2 := 0) (ms2 := 0) (M2 := M_X10_spark) (R2 := fun q S => q = some (.int r) ∧ S = (I, R, J)) d_L_law_513 (zw_mG (List.mem_of_getElem? (i := 926) (by decide +kernel)) rfl) ce_X10_spark (Or.inl ⟨10, _, by decide, by decide, by decide +kernel, rfl, rfl⟩) (Nat.le_of_ble_eq_true rfl) rfl (Nat.le_of_ble_eq_true rfl) (by decide) ⟨by decide, by decide⟩ (by decide) (c_X10_spark X 1 (X.2 (Int32.toNatClampNeg ((nI i) + 1))) I R J _ h1 ⟨rfl, rfl⟩) ?_
  rintro _ _ ⟨rfl, rfl⟩
  show zw_V X M_L_law 1300 199 25592 0 P (513 + 3) 199 25592 [.ref 1012, .ref 1, .ref 148, .int (nI i)] [.int r] (I, R, J)
  refine zv_aload_n (pc := 516) d_L_law_516 rfl ?_
  refine zv_aload_n (pc := 517) d_L_law_517 rfl ?_
  refine zv_iload_n (pc := 518) d_L_law_518 rfl ?_
  refine zv_iconst (pc := 519) d_L_law_519 zc_i_1 ?_
  refine zv_iadd (pc := 520) d_L_law_520 ?_
  refine zv_xald (pc := 521) d_L_law_521 (zl_in 1 rfl hi (by decide) hL) ?_
  refine zv_callV (pc := 522) (As := [.int (X.2 (Int32.toNatClampNeg ((nI i) + 1)))]) (o := 148) (st := [.int r]) (d2 := 1) (mc2 := 0) (ms2 := 0) (M2 := M_X11_spark) (R2 := fun q S => q = some (.int r) ∧ S = (I, R, J)) d_L_law_522 (zw_mG (List.mem_of_getElem? (i := 1595) (by decide +kernel)) rfl) ce_X11_spark (Or.inl ⟨11, _, by decide, by decide, by decide +kernel, rfl, rfl⟩) (Nat.le_of_ble_eq_true rfl) rfl (Nat.le_of_ble_eq_true rfl) (by decide) ⟨by decide, by decide⟩ (by decide) (c_X11_spark X 148 (X.2 (Int32.toNatClampNeg ((nI i) + 1))) I R J _ h2 ⟨rfl, rfl⟩) ?_
  rintro _ _ ⟨rfl, rfl⟩
  show zw_V X M_L_law 1300 199 25592 0 P (522 + 3) 199 25592 [.ref 1012, .ref 1, .ref 148, .int (nI i)] [.int r, .int r] (I, R, J)
  refine zv_icmp_eq (pc := 525) (tg := 1107) d_L_law_525 (by decide) (fun _ => ?_) (fun q => absurd rfl q)
  exact hg I R J hR
theorem zl_shine {X : zw_X} {P : Option Value → aS → Prop} {Rel : aS → Prop} (hE : zE_shine Rel) {i : Nat} (hi : i + 9 ≤ X.1) (hL : X.1 ≤ 4608) (hg : ∀ I R J, Rel (I, R, J) → zw_V X M_L_law 1300 199 25592 0 P (1107) 199 25592 [.ref 1012, .ref 1, .ref 148, .int (nI i)] [] (I, R, J)) (I : zI) (R : zR) (J : zJ) (hR : Rel (I, R, J)) : zw_V X M_L_law 1300 199 25592 0 P (530) 199 25592 [.ref 1012, .ref 1, .ref 148, .int (nI i)] [] (I, R, J) := by
  obtain ⟨r, I1, I2, h1, h2, hR⟩ := hE I R J (X.2 (Int32.toNatClampNeg (nI i + 1))) (X.2 (Int32.toNatClampNeg (nI i + 2))) (X.2 (Int32.toNatClampNeg (nI i + 3))) (X.2 (Int32.toNatClampNeg (nI i + 4))) (X.2 (Int32.toNatClampNeg (nI i + 5))) (X.2 (Int32.toNatClampNeg (nI i + 6))) (X.2 (Int32.toNatClampNeg (nI i + 7))) (X.2 (Int32.toNatClampNeg (nI i + 8))) hR
  refine zv_aload_n (pc := 530) d_L_law_530 rfl ?_
  refine zv_aload_n (pc := 531) d_L_law_531 rfl ?_
  refine zv_iload_n (pc := 532) d_L_law_532 rfl ?_
  refine zv_iconst (pc := 533) d_L_law_533 zc_i_1 ?_
  refine zv_iadd (pc := 534) d_L_law_534 ?_
  refine zv_xald (pc := 535) d_L_law_535 (zl_in 1 rfl hi (by decide) hL) ?_
  refine zv_aload_n (pc := 536) d_L_law_536 rfl ?_
  refine zv_iload_n (pc := 537) d_L_law_537 rfl ?_
  refine zv_iconst (pc := 538) d_L_law_538 zc_i_2 ?_
  refine zv_iadd (pc := 539) d_L_law_539 ?_
  refine zv_xald (pc := 540) d_L_law_540 (zl_in 2 rfl hi (by decide) hL) ?_
  refine zv_aload_n (pc := 541) d_L_law_541 rfl ?_
  refine zv_iload_n (pc := 542) d_L_law_542 rfl ?_
  refine zv_iconst (pc := 543) d_L_law_543 zc_i_3 ?_
  refine zv_iadd (pc := 544) d_L_law_544 ?_
  refine zv_xald (pc := 545) d_L_law_545 (zl_in 3 rfl hi (by decide) hL) ?_
  refine zv_aload_n (pc := 546) d_L_law_546 rfl ?_
  refine zv_iload_n (pc := 547) d_L_law_547 rfl ?_
  refine zv_iconst (pc := 548) d_L_law_548 zc_i_4 ?_
  refine zv_iadd (pc := 549) d_L_law_549 ?_
  refine zv_xald (pc := 550) d_L_law_550 (zl_in 4 rfl hi (by decide) hL) ?_
  refine zv_aload_n (pc := 551) d_L_law_551 rfl ?_
  refine zv_iload_n (pc := 552) d_L_law_552 rfl ?_
  refine zv_iconst (pc := 553) d_L_law_553 zc_i_5 ?_
  refine zv_iadd (pc := 554) d_L_law_554 ?_
  refine zv_xald (pc := 555) d_L_law_555 (zl_in 5 rfl hi (by decide) hL) ?_
  refine zv_aload_n (pc := 556) d_L_law_556 rfl ?_
  refine zv_iload_n (pc := 557) d_L_law_557 rfl ?_
  refine zv_bipush (pc := 558) d_L_law_558 zc_b_6 ?_
  refine zv_iadd (pc := 560) d_L_law_560 ?_
  refine zv_xald (pc := 561) d_L_law_561 (zl_in 6 rfl hi (by decide) hL) ?_
  refine zv_aload_n (pc := 562) d_L_law_562 rfl ?_
  refine zv_iload_n (pc := 563) d_L_law_563 rfl ?_
  refine zv_bipush (pc := 564) d_L_law_564 zc_b_7 ?_
  refine zv_iadd (pc := 566) d_L_law_566 ?_
  refine zv_xald (pc := 567) d_L_law_567 (zl_in 7 rfl hi (by decide) hL) ?_
  refine zv_aload_n (pc := 568) d_L_law_568 rfl ?_
  refine zv_iload_n (pc := 569) d_L_law_569 rfl ?_
  refine zv_bipush (pc := 570) d_L_law_570 zc_b_8 ?_
  refine zv_iadd (pc := 572) d_L_law_572 ?_
  refine zv_xald (pc := 573) d_L_law_573 (zl_in 8 rfl hi (by decide) hL) ?_
  refine zv_callV (pc := 574) (As := [.int (X.2 (Int32.toNatClampNeg ((nI i) + 1))), .int (X.2 (Int32.toNatClampNeg ((nI i) + 2))), .int (X.2 (Int32.toNatClampNeg ((nI i) + 3))), .int (X.2 (Int32.toNatClampNeg ((nI i) + 4))), .int (X.2 (Int32.toNatClampNeg ((nI i) + 5))), .int (X.2 (Int32.toNatClampNeg ((nI i) + 6))), .int (X.2 (Int32.toNatClampNeg ((nI i) + 7))), .int (X.2 (Int32.toNatClampNeg ((nI i) + 8)))]) (o := 1) (st := []) (d2 := 4) (mc2 := 0) (ms2 := 0) (M2 := M_X10_shine) (R2 := fun q S => q = some (.int r) ∧ S = (I1, R, J)) d_L_law_574 (zw_mG (List.mem_of_getElem? (i := 930) (by decide +kernel)) rfl) ce_X10_shine (Or.inl ⟨10, _, by decide, by decide, by decide +kernel, rfl, rfl⟩) (Nat.le_of_ble_eq_true rfl) rfl (Nat.le_of_ble_eq_true rfl) (by decide) ⟨by decide, by decide⟩ (by decide) (c_X10_shine X 1 (X.2 (Int32.toNatClampNeg ((nI i) + 1))) (X.2 (Int32.toNatClampNeg ((nI i) + 2))) (X.2 (Int32.toNatClampNeg ((nI i) + 3))) (X.2 (Int32.toNatClampNeg ((nI i) + 4))) (X.2 (Int32.toNatClampNeg ((nI i) + 5))) (X.2 (Int32.toNatClampNeg ((nI i) + 6))) (X.2 (Int32.toNatClampNeg ((nI i) + 7))) (X.2 (Int32.toNatClampNeg ((nI i) + 8))) I R J _ h1 ⟨rfl, rfl⟩) ?_
  rintro _ _ ⟨rfl, rfl⟩
  show zw_V X M_L_law 1300 199 25592 0 P (574 + 3) 199 25592 [.ref 1012, .ref 1, .ref 148, .int (nI i)] [.int r] (I1, R, J)
  refine zv_aload_n (pc := 577) d_L_law_577 rfl ?_
  refine zv_aload_n (pc := 578) d_L_law_578 rfl ?_
  refine zv_iload_n (pc := 579) d_L_law_579 rfl ?_
  refine zv_iconst (pc := 580) d_L_law_580 zc_i_1 ?_
  refine zv_iadd (pc := 581) d_L_law_581 ?_
  refine zv_xald (pc := 582) d_L_law_582 (zl_in 1 rfl hi (by decide) hL) ?_
  refine zv_aload_n (pc := 583) d_L_law_583 rfl ?_
  refine zv_iload_n (pc := 584) d_L_law_584 rfl ?_
  refine zv_iconst (pc := 585) d_L_law_585 zc_i_2 ?_
  refine zv_iadd (pc := 586) d_L_law_586 ?_
  refine zv_xald (pc := 587) d_L_law_587 (zl_in 2 rfl hi (by decide) hL) ?_
  refine zv_aload_n (pc := 588) d_L_law_588 rfl ?_
  refine zv_iload_n (pc := 589) d_L_law_589 rfl ?_
  refine zv_iconst (pc := 590) d_L_law_590 zc_i_3 ?_
  refine zv_iadd (pc := 591) d_L_law_591 ?_
  refine zv_xald (pc := 592) d_L_law_592 (zl_in 3 rfl hi (by decide) hL) ?_
  refine zv_aload_n (pc := 593) d_L_law_593 rfl ?_
  refine zv_iload_n (pc := 594) d_L_law_594 rfl ?_
  refine zv_iconst (pc := 595) d_L_law_595 zc_i_4 ?_
  refine zv_iadd (pc := 596) d_L_law_596 ?_
  refine zv_xald (pc := 597) d_L_law_597 (zl_in 4 rfl hi (by decide) hL) ?_
  refine zv_aload_n (pc := 598) d_L_law_598 rfl ?_
  refine zv_iload_n (pc := 599) d_L_law_599 rfl ?_
  refine zv_iconst (pc := 600) d_L_law_600 zc_i_5 ?_
  refine zv_iadd (pc := 601) d_L_law_601 ?_
  refine zv_xald (pc := 602) d_L_law_602 (zl_in 5 rfl hi (by decide) hL) ?_
  refine zv_aload_n (pc := 603) d_L_law_603 rfl ?_
  refine zv_iload_n (pc := 604) d_L_law_604 rfl ?_
  refine zv_bipush (pc := 605) d_L_law_605 zc_b_6 ?_
  refine zv_iadd (pc := 607) d_L_law_607 ?_
  refine zv_xald (pc := 608) d_L_law_608 (zl_in 6 rfl hi (by decide) hL) ?_
  refine zv_aload_n (pc := 609) d_L_law_609 rfl ?_
  refine zv_iload_n (pc := 610) d_L_law_610 rfl ?_
  refine zv_bipush (pc := 611) d_L_law_611 zc_b_7 ?_
  refine zv_iadd (pc := 613) d_L_law_613 ?_
  refine zv_xald (pc := 614) d_L_law_614 (zl_in 7 rfl hi (by decide) hL) ?_
  refine zv_aload_n (pc := 615) d_L_law_615 rfl ?_
  refine zv_iload_n (pc := 616) d_L_law_616 rfl ?_
  refine zv_bipush (pc := 617) d_L_law_617 zc_b_8 ?_
  refine zv_iadd (pc := 619) d_L_law_619 ?_
  refine zv_xald (pc := 620) d_L_law_620 (zl_in 8 rfl hi (by decide) hL) ?_
  refine zv_callV (pc := 621) (As := [.int (X.2 (Int32.toNatClampNeg ((nI i) + 1))), .int (X.2 (Int32.toNatClampNeg ((nI i) + 2))), .int (X.2 (Int32.toNatClampNeg ((nI i) + 3))), .int (X.2 (Int32.toNatClampNeg ((nI i) + 4))), .int (X.2 (Int32.toNatClampNeg ((nI i) + 5))), .int (X.2 (Int32.toNatClampNeg ((nI i) + 6))), .int (X.2 (Int32.toNatClampNeg ((nI i) + 7))), .int (X.2 (Int32.toNatClampNeg ((nI i) + 8)))]) (o := 148) (st := [.int r]) (d2 := 5) (mc2 := 0) (ms2 := 0) (M2 := M_X11_shine) (R2 := fun q S => q = some (.int r) ∧ S = (I2, R, J)) d_L_law_621 (zw_mG (List.mem_of_getElem? (i := 1599) (by decide +kernel)) rfl) ce_X11_shine (Or.inl ⟨11, _, by decide, by decide, by decide +kernel, rfl, rfl⟩) (Nat.le_of_ble_eq_true rfl) rfl (Nat.le_of_ble_eq_true rfl) (by decide) ⟨by decide, by decide⟩ (by decide) (c_X11_shine X 148 (X.2 (Int32.toNatClampNeg ((nI i) + 1))) (X.2 (Int32.toNatClampNeg ((nI i) + 2))) (X.2 (Int32.toNatClampNeg ((nI i) + 3))) (X.2 (Int32.toNatClampNeg ((nI i) + 4))) (X.2 (Int32.toNatClampNeg ((nI i) + 5))) (X.2 (Int32.toNatClampNeg ((nI i) + 6))) (X.2 (Int32.toNatClampNeg ((nI i) + 7))) (X.2 (Int32.toNatClampNeg ((nI i) + 8))) I1 R J _ h2 ⟨rfl, rfl⟩) ?_
  rintro _ _ ⟨rfl, rfl⟩
  show zw_V X M_L_law 1300 199 25592 0 P (621 + 3) 199 25592 [.ref 1012, .ref 1, .ref 148, .int (nI i)] [.int r, .int r] (I2, R, J)
  refine zv_icmp_eq (pc := 624) (tg := 1107) d_L_law_624 (by decide) (fun _ => ?_) (fun q => absurd rfl q)
  exact hg I2 R J hR
theorem zl_seen {X : zw_X} {P : Option Value → aS → Prop} {Rel : aS → Prop} (hE : zE_seen Rel) {i : Nat} (hi : i + 9 ≤ X.1) (hL : X.1 ≤ 4608) (hg : ∀ I R J, Rel (I, R, J) → zw_V X M_L_law 1300 199 25592 0 P (1107) 199 25592 [.ref 1012, .ref 1, .ref 148, .int (nI i)] [] (I, R, J)) (I : zI) (R : zR) (J : zJ) (hR : Rel (I, R, J)) : zw_V X M_L_law 1300 199 25592 0 P (629) 199 25592 [.ref 1012, .ref 1, .ref 148, .int (nI i)] [] (I, R, J) := by
  obtain ⟨r, h1, h2, hR⟩ := hE I R J (X.2 (Int32.toNatClampNeg (nI i + 1))) hR
  refine zv_aload_n (pc := 629) d_L_law_629 rfl ?_
  refine zv_aload_n (pc := 630) d_L_law_630 rfl ?_
  refine zv_iload_n (pc := 631) d_L_law_631 rfl ?_
  refine zv_iconst (pc := 632) d_L_law_632 zc_i_1 ?_
  refine zv_iadd (pc := 633) d_L_law_633 ?_
  refine zv_xald (pc := 634) d_L_law_634 (zl_in 1 rfl hi (by decide) hL) ?_
  refine zv_callV (pc := 635) (As := [.int (X.2 (Int32.toNatClampNeg ((nI i) + 1)))]) (o := 1) (st := []) (d2 := 0) (mc2 := 0) (ms2 := 0) (M2 := M_X10_seen) (R2 := fun q S => q = some (.int r) ∧ S = (I, R, J)) d_L_law_635 (zw_mG (List.mem_of_getElem? (i := 966) (by decide +kernel)) rfl) ce_X10_seen (Or.inl ⟨10, _, by decide, by decide, by decide +kernel, rfl, rfl⟩) (Nat.le_of_ble_eq_true rfl) rfl (Nat.le_of_ble_eq_true rfl) (by decide) ⟨by decide, by decide⟩ (by decide) (c_X10_seen X 1 (X.2 (Int32.toNatClampNeg ((nI i) + 1))) I R J _ h1 ⟨rfl, rfl⟩) ?_
  rintro _ _ ⟨rfl, rfl⟩
  show zw_V X M_L_law 1300 199 25592 0 P (635 + 3) 199 25592 [.ref 1012, .ref 1, .ref 148, .int (nI i)] [.int r] (I, R, J)
  refine zv_aload_n (pc := 638) d_L_law_638 rfl ?_
  refine zv_aload_n (pc := 639) d_L_law_639 rfl ?_
  refine zv_iload_n (pc := 640) d_L_law_640 rfl ?_
  refine zv_iconst (pc := 641) d_L_law_641 zc_i_1 ?_
  refine zv_iadd (pc := 642) d_L_law_642 ?_
  refine zv_xald (pc := 643) d_L_law_643 (zl_in 1 rfl hi (by decide) hL) ?_
  refine zv_callV (pc := 644) (As := [.int (X.2 (Int32.toNatClampNeg ((nI i) + 1)))]) (o := 148) (st := [.int r]) (d2 := 1) (mc2 := 0) (ms2 := 0) (M2 := M_X11_seen) (R2 := fun q S => q = some (.int r) ∧ S = (I, R, J)) d_L_law_644 (zw_mG (List.mem_of_getElem? (i := 1608) (by decide +kernel)) rfl) ce_X11_seen (Or.inl ⟨11, _, by decide, by decide, by decide +kernel, rfl, rfl⟩) (Nat.le_of_ble_eq_true rfl) rfl (Nat.le_of_ble_eq_true rfl) (by decide) ⟨by decide, by decide⟩ (by decide) (c_X11_seen X 148 (X.2 (Int32.toNatClampNeg ((nI i) + 1))) I R J _ h2 ⟨rfl, rfl⟩) ?_
  rintro _ _ ⟨rfl, rfl⟩
  show zw_V X M_L_law 1300 199 25592 0 P (644 + 3) 199 25592 [.ref 1012, .ref 1, .ref 148, .int (nI i)] [.int r, .int r] (I, R, J)
  refine zv_icmp_eq (pc := 647) (tg := 1107) d_L_law_647 (by decide) (fun _ => ?_) (fun q => absurd rfl q)
  exact hg I R J hR
theorem zl_column {X : zw_X} {P : Option Value → aS → Prop} {Rel : aS → Prop} (hE : zE_column Rel) {i : Nat} (hi : i + 9 ≤ X.1) (hL : X.1 ≤ 4608) (hg : ∀ I R J, Rel (I, R, J) → zw_V X M_L_law 1300 199 25592 0 P (1107) 199 25592 [.ref 1012, .ref 1, .ref 148, .int (nI i)] [] (I, R, J)) (I : zI) (R : zR) (J : zJ) (hR : Rel (I, R, J)) : zw_V X M_L_law 1300 199 25592 0 P (652) 199 25592 [.ref 1012, .ref 1, .ref 148, .int (nI i)] [] (I, R, J) := by
  obtain ⟨r, h1, h2, hR⟩ := hE I R J (X.2 (Int32.toNatClampNeg (nI i + 1))) hR
  refine zv_aload_n (pc := 652) d_L_law_652 rfl ?_
  refine zv_aload_n (pc := 653) d_L_law_653 rfl ?_
  refine zv_iload_n (pc := 654) d_L_law_654 rfl ?_
  refine zv_iconst (pc := 655) d_L_law_655 zc_i_1 ?_
  refine zv_iadd (pc := 656) d_L_law_656 ?_
  refine zv_xald (pc := 657) d_L_law_657 (zl_in 1 rfl hi (by decide) hL) ?_
  refine zv_callV (pc := 658) (As := [.int (X.2 (Int32.toNatClampNeg ((nI i) + 1)))]) (o := 1) (st := []) (d2 := 0) (mc2 := 0) (ms2 := 0) (M2 := M_X10_column) (R2 := fun q S => q = some (.int r) ∧ S = (I, R, J)) d_L_law_658 (zw_mG (List.mem_of_getElem? (i := 970) (by decide +kernel)) rfl) ce_X10_column (Or.inl ⟨10, _, by decide, by decide, by decide +kernel, rfl, rfl⟩) (Nat.le_of_ble_eq_true rfl) rfl (Nat.le_of_ble_eq_true rfl) (by decide) ⟨by decide, by decide⟩ (by decide) (c_X10_column X 1 (X.2 (Int32.toNatClampNeg ((nI i) + 1))) I R J _ h1 ⟨rfl, rfl⟩) ?_
  rintro _ _ ⟨rfl, rfl⟩
  show zw_V X M_L_law 1300 199 25592 0 P (658 + 3) 199 25592 [.ref 1012, .ref 1, .ref 148, .int (nI i)] [.int r] (I, R, J)
  refine zv_aload_n (pc := 661) d_L_law_661 rfl ?_
  refine zv_aload_n (pc := 662) d_L_law_662 rfl ?_
  refine zv_iload_n (pc := 663) d_L_law_663 rfl ?_
  refine zv_iconst (pc := 664) d_L_law_664 zc_i_1 ?_
  refine zv_iadd (pc := 665) d_L_law_665 ?_
  refine zv_xald (pc := 666) d_L_law_666 (zl_in 1 rfl hi (by decide) hL) ?_
  refine zv_callV (pc := 667) (As := [.int (X.2 (Int32.toNatClampNeg ((nI i) + 1)))]) (o := 148) (st := [.int r]) (d2 := 1) (mc2 := 0) (ms2 := 0) (M2 := M_X11_column) (R2 := fun q S => q = some (.int r) ∧ S = (I, R, J)) d_L_law_667 (zw_mG (List.mem_of_getElem? (i := 1612) (by decide +kernel)) rfl) ce_X11_column (Or.inl ⟨11, _, by decide, by decide, by decide +kernel, rfl, rfl⟩) (Nat.le_of_ble_eq_true rfl) rfl (Nat.le_of_ble_eq_true rfl) (by decide) ⟨by decide, by decide⟩ (by decide) (c_X11_column X 148 (X.2 (Int32.toNatClampNeg ((nI i) + 1))) I R J _ h2 ⟨rfl, rfl⟩) ?_
  rintro _ _ ⟨rfl, rfl⟩
  show zw_V X M_L_law 1300 199 25592 0 P (667 + 3) 199 25592 [.ref 1012, .ref 1, .ref 148, .int (nI i)] [.int r, .int r] (I, R, J)
  refine zv_icmp_eq (pc := 670) (tg := 1107) d_L_law_670 (by decide) (fun _ => ?_) (fun q => absurd rfl q)
  exact hg I R J hR
theorem zl_grade {X : zw_X} {P : Option Value → aS → Prop} {Rel : aS → Prop} (hE : zE_grade Rel) {i : Nat} (hi : i + 9 ≤ X.1) (hL : X.1 ≤ 4608) (hg : ∀ I R J, Rel (I, R, J) → zw_V X M_L_law 1300 199 25592 0 P (1107) 199 25592 [.ref 1012, .ref 1, .ref 148, .int (nI i)] [] (I, R, J)) (I : zI) (R : zR) (J : zJ) (hR : Rel (I, R, J)) : zw_V X M_L_law 1300 199 25592 0 P (675) 199 25592 [.ref 1012, .ref 1, .ref 148, .int (nI i)] [] (I, R, J) := by
  obtain ⟨r, I1, I2, h1, h2, hR⟩ := hE I R J  hR
  refine zv_aload_n (pc := 675) d_L_law_675 rfl ?_
  refine zv_callV (pc := 676) (As := []) (o := 1) (st := []) (d2 := 5) (mc2 := 0) (ms2 := 0) (M2 := M_X10_grade) (R2 := fun q S => q = some (.int r) ∧ S = (I1, R, J)) d_L_law_676 (zw_mG (List.mem_of_getElem? (i := 974) (by decide +kernel)) rfl) ce_X10_grade (Or.inl ⟨10, _, by decide, by decide, by decide +kernel, rfl, rfl⟩) (Nat.le_of_ble_eq_true rfl) rfl (Nat.le_of_ble_eq_true rfl) (by decide) ⟨by decide, by decide⟩ (by decide) (c_X10_grade X 1  I R J _ h1 ⟨rfl, rfl⟩) ?_
  rintro _ _ ⟨rfl, rfl⟩
  show zw_V X M_L_law 1300 199 25592 0 P (676 + 3) 199 25592 [.ref 1012, .ref 1, .ref 148, .int (nI i)] [.int r] (I1, R, J)
  refine zv_aload_n (pc := 679) d_L_law_679 rfl ?_
  refine zv_callV (pc := 680) (As := []) (o := 148) (st := [.int r]) (d2 := 3) (mc2 := 0) (ms2 := 0) (M2 := M_X11_grade) (R2 := fun q S => q = some (.int r) ∧ S = (I2, R, J)) d_L_law_680 (zw_mG (List.mem_of_getElem? (i := 1616) (by decide +kernel)) rfl) ce_X11_grade (Or.inl ⟨11, _, by decide, by decide, by decide +kernel, rfl, rfl⟩) (Nat.le_of_ble_eq_true rfl) rfl (Nat.le_of_ble_eq_true rfl) (by decide) ⟨by decide, by decide⟩ (by decide) (c_X11_grade X 148  I1 R J _ h2 ⟨rfl, rfl⟩) ?_
  rintro _ _ ⟨rfl, rfl⟩
  show zw_V X M_L_law 1300 199 25592 0 P (680 + 3) 199 25592 [.ref 1012, .ref 1, .ref 148, .int (nI i)] [.int r, .int r] (I2, R, J)
  refine zv_icmp_eq (pc := 683) (tg := 1107) d_L_law_683 (by decide) (fun _ => ?_) (fun q => absurd rfl q)
  exact hg I2 R J hR
