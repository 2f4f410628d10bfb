/-! ===== a rule more, in the class ===== -/
theorem zc_addGrade {sw b : Bool} {I : zI} {k : Nat} (h7 : I (zE_h b) 7 = nI k) (hk : k < 8) : f_X1_addGrade (zE_h b) I (zE_R sw) = some (zE_h b + (41 + k), zw_u I (zE_h b) 7 (nI (k + 1))) := by
  have r6 := (zE_rH sw b).2.2.2.1
  have g4 := (zE_gH b).2.2.2.2.1
  have s4 := (zE_sH b).2.2.2.2.1
  have rg := zE_rHg sw b k hk
  have gr := (zE_sHru b k (by omega)).2
  unfold f_X1_addGrade
  rw [(zE_gH b).1, zw_g_t, r6, g4, zw_g_t, s4, h7, zE_in hk (by decide), zw_g_t, zE_cl (show k < 2 ^ 31 by omega), rg, gr, zw_g_t, zw_let_e, nI_1]
theorem zc_addPrice {sw b : Bool} {I : zI} {k : Nat} (h9 : I (zE_h b) 9 = nI k) (hk : k < 8) : f_X1_addPrice (zE_h b) I (zE_R sw) = some (zE_h b + (41 + (8 + k)), zw_u I (zE_h b) 9 (nI (k + 1))) := by
  have r8 := (zE_rH sw b).2.2.2.2.1
  have g5 := (zE_gH b).2.2.2.2.2.1
  have s5 := (zE_sH b).2.2.2.2.2.1
  have rp : zE_R sw (zE_h b + 5) k = zE_h b + (41 + (8 + k)) := (zE_rHp sw b k hk).trans (by omega)
  have gr := (zE_sHru b (8 + k) (by omega)).2
  unfold f_X1_addPrice
  rw [(zE_gH b).1, zw_g_t, r8, g5, zw_g_t, s5, h9, zE_in hk (by decide), zw_g_t, zE_cl (show k < 2 ^ 31 by omega), rp, gr, zw_g_t, zw_let_e, nI_1]
theorem zc_begin {b : Bool} {I : zI} {k : Nat} (hk : k < 16) (v : Int32) : f_X5_begin (zE_h b + (41 + k)) v I = some (zw_u (zw_u (zw_u I (zE_h b + (41 + k)) 0 v) (zE_h b + (41 + k)) 1 v) (zE_h b + (41 + k)) 2 v) := by
  unfold f_X5_begin
  rw [(zE_sHru b k hk).2, zw_g_t, zw_let_e, zw_let_e, zw_let_e]
