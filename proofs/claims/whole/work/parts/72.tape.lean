/-! ===== the tape: feed, back ===== -/
def zE_bt (w sh : Int32) : Int32 := Int8.toInt32 (Int32.toInt8 (Int8.toInt32 (Int32.toInt8 (w >>> (sh &&& 31)))))
def zE_ap (I : zI) (a o j m : Nat) (b : Int32) : zI := zw_u (zw_u I a m b) o j (nI (m + 1))
theorem zE_app1 {sw : Bool} {w sh : Int32} {I : zI} {m : Nat} (hsh : ¬ sh < 0) (hm : m < 2000) (hI : I 2 1 = nI m) : s_X8_append_3 2 w (zE_R sw) (sh, I) = some (.inl (sh + (-8), zE_ap I 3 2 1 m (zE_bt w sh))) := by
  have h1 : ¬ (2000 : Int32) ≤ nI m := nI_ge (b := 2000) hm (by decide)
  have h2 : zw_in (nI m) 2000 = true := zE_in hm (by decide)
  have h3 : ∀ b, zw_u I 3 m b 2 1 = nI m := fun b => (zE_u2 _ _ (by omega)).trans hI
  have h4 : Int32.toNatClampNeg (nI m) = m := zE_cl (by omega)
  unfold s_X8_append_3
  dsimp only
  simp only [if_neg hsh, zE_gC, zE_rC sw, zE_sC, zw_g_t, zw_let_e, hI, if_neg h1, h2, h3, h4, nI_1]
  rfl
theorem zE_put1 {sw : Bool} {w sh : Int32} {I : zI} {m : Nat} (hsh : ¬ sh < 0) (hm : m < 2000) (hI : I 148 2 = nI m) : s_X11_put_3 148 w (zE_R sw) (sh, I) = some (.inl (sh + (-8), zE_ap I 149 148 2 m (zE_bt w sh))) := by
  have h2 : zw_in (nI m) 2000 = true := zE_in hm (by decide)
  have h3 : ∀ b, zw_u I 149 m b 148 2 = nI m := fun b => (zE_u2 _ _ (by omega)).trans hI
  have h4 : Int32.toNatClampNeg (nI m) = m := zE_cl (by omega)
  unfold s_X11_put_3
  dsimp only
  simp only [if_neg hsh, zE_gM, zE_rM sw, zE_sM, zw_g_t, zw_let_e, hI, h2, h3, h4, nI_1]
  rfl
def zE_ap4 (I : zI) (a o j m : Nat) (w : Int32) : zI := zE_ap (zE_ap (zE_ap (zE_ap I a o j m (zE_bt w 24)) a o j (m + 1) (zE_bt w 16)) a o j (m + 2) (zE_bt w 8)) a o j (m + 3) (zE_bt w 0)
theorem zE_ap_len (I : zI) {a o j m : Nat} (b : Int32) : zE_ap I a o j m b o j = nI (m + 1) := zE_u1 _ _ _ _
theorem zE_app {sw : Bool} {w : Int32} {I : zI} {m : Nat} (hm : m + 4 ≤ 2000) (hI : I 2 1 = nI m) : f_X8_append 2 w I (zE_R sw) = some (zE_ap4 I 3 2 1 m w) := by
  unfold f_X8_append
  have e1 := zE_app1 (sw := sw) (w := w) (sh := 24) (I := I) (m := m) (by decide) (by omega) hI
  have e2 := zE_app1 (sw := sw) (w := w) (sh := 24 + (-8)) (I := (zE_ap I 3 2 1 m (zE_bt w 24))) (m := m + 1) (by decide) (by omega) (zE_ap_len _ _)
  have e3 := zE_app1 (sw := sw) (w := w) (sh := 24 + (-8) + (-8)) (I := (zE_ap (zE_ap I 3 2 1 m (zE_bt w 24)) 3 2 1 (m + 1) (zE_bt w (24 + (-8))))) (m := m + 2) (by decide) (by omega) (zE_ap_len _ _)
  have e4 := zE_app1 (sw := sw) (w := w) (sh := 24 + (-8) + (-8) + (-8)) (I := (zE_ap (zE_ap (zE_ap I 3 2 1 m (zE_bt w 24)) 3 2 1 (m + 1) (zE_bt w (24 + (-8)))) 3 2 1 (m + 2) (zE_bt w (24 + (-8) + (-8))))) (m := m + 3) (by decide) (by omega) (zE_ap_len _ _)
  rw [zE_it1 999999 e1, zE_it1 999998 e2, zE_it1 999997 e3, zE_it1 999996 e4, zE_it0 999995 (r := zE_ap4 I 3 2 1 m w)]
  · rfl
  · unfold s_X8_append_3
    rw [if_pos (show (24 + (-8) + (-8) + (-8) + (-8) : Int32) < 0 by decide)]
    rfl
theorem zE_put {sw : Bool} {w : Int32} {I : zI} {m : Nat} (hm : m + 4 ≤ 2000) (hI : I 148 2 = nI m) : f_X11_put 148 w I (zE_R sw) = some (zE_ap4 I 149 148 2 m w) := by
  unfold f_X11_put
  have e1 := zE_put1 (sw := sw) (w := w) (sh := 24) (I := I) (m := m) (by decide) (by omega) hI
  have e2 := zE_put1 (sw := sw) (w := w) (sh := 24 + (-8)) (I := (zE_ap I 149 148 2 m (zE_bt w 24))) (m := m + 1) (by decide) (by omega) (zE_ap_len _ _)
  have e3 := zE_put1 (sw := sw) (w := w) (sh := 24 + (-8) + (-8)) (I := (zE_ap (zE_ap I 149 148 2 m (zE_bt w 24)) 149 148 2 (m + 1) (zE_bt w (24 + (-8))))) (m := m + 2) (by decide) (by omega) (zE_ap_len _ _)
  have e4 := zE_put1 (sw := sw) (w := w) (sh := 24 + (-8) + (-8) + (-8)) (I := (zE_ap (zE_ap (zE_ap I 149 148 2 m (zE_bt w 24)) 149 148 2 (m + 1) (zE_bt w (24 + (-8)))) 149 148 2 (m + 2) (zE_bt w (24 + (-8) + (-8))))) (m := m + 3) (by decide) (by omega) (zE_ap_len _ _)
  rw [zE_it1 999999 e1, zE_it1 999998 e2, zE_it1 999997 e3, zE_it1 999996 e4, zE_it0 999995 (r := zE_ap4 I 149 148 2 m w)]
  · rfl
  · unfold s_X11_put_3
    rw [if_pos (show (24 + (-8) + (-8) + (-8) + (-8) : Int32) < 0 by decide)]
    rfl
theorem zE_ap_off (I : zI) {a o j m x y : Nat} (b : Int32) (h1 : ¬ (x = a ∧ y = m)) (h2 : ¬ (x = o ∧ y = j)) : zE_ap I a o j m b x y = I x y := (zE_u2 _ _ h2).trans (zE_u2 _ _ h1)
theorem zE_ap_at (I : zI) {a o j m : Nat} (b : Int32) (h : a ≠ o) : zE_ap I a o j m b a m = b := (zE_u2 _ _ (fun q => h q.1)).trans (zE_u1 _ _ _ _)
/-- four bytes more -/
theorem zE_ap4_len (I : zI) (a o j m : Nat) (w : Int32) : zE_ap4 I a o j m w o j = nI (m + 4) := zE_ap_len _ _
theorem zE_ap4_row (I : zI) {a o j m : Nat} (w : Int32) (h : a ≠ o) (y : Nat) : zE_ap4 I a o j m w a y = if y = m + 3 then zE_bt w 0 else if y = m + 2 then zE_bt w 8 else if y = m + 1 then zE_bt w 16 else if y = m then zE_bt w 24 else I a y := by
  unfold zE_ap4
  have key : ∀ (K : zI) (m : Nat) (b : Int32), zE_ap K a o j m b a y = if y = m then b else K a y := by
    intro K m b
    by_cases hy : y = m
    · rw [if_pos hy, hy]; exact zE_ap_at _ _ h
    · rw [if_neg hy]; exact zE_ap_off _ _ (fun q => hy q.2) (fun q => h q.1)
  rw [key, key, key, key]
theorem zE_ap4_off (I : zI) {a o j m x : Nat} (w : Int32) (h1 : x ≠ a) (h2 : x ≠ o) : zE_ap4 I a o j m w x = I x := by
  funext y
  unfold zE_ap4
  rw [zE_ap_off _ _ (fun q => h1 q.1) (fun q => h2 q.1), zE_ap_off _ _ (fun q => h1 q.1) (fun q => h2 q.1), zE_ap_off _ _ (fun q => h1 q.1) (fun q => h2 q.1), zE_ap_off _ _ (fun q => h1 q.1) (fun q => h2 q.1)]
theorem zE_ap4_offo (I : zI) {a o j m y : Nat} (w : Int32) (h1 : o ≠ a) (h2 : y ≠ j) : zE_ap4 I a o j m w o y = I o y := by
  unfold zE_ap4
  rw [zE_ap_off _ _ (fun q => h1 q.1) (fun q => h2 q.2), zE_ap_off _ _ (fun q => h1 q.1) (fun q => h2 q.2), zE_ap_off _ _ (fun q => h1 q.1) (fun q => h2 q.2), zE_ap_off _ _ (fun q => h1 q.1) (fun q => h2 q.2)]
/-- the tape of the class and that of the model -/
def zE_T (I : zI) : Prop := ∃ n, n ≤ 2000 ∧ I 2 1 = nI n ∧ I 148 2 = nI n ∧ ∀ j, j < n → I 3 j = I 149 j
def zE_ap20 (I : zI) (a o j m : Nat) (w1 w2 w3 w4 w5 : Int32) : zI := zE_ap4 (zE_ap4 (zE_ap4 (zE_ap4 (zE_ap4 I a o j m w1) a o j (m + 4) w2) a o j (m + 8) w3) a o j (m + 12) w4) a o j (m + 16) w5
theorem zE_feedC {sw : Bool} {I : zI} {n : Nat} (w1 w2 w3 w4 w5 : Int32) (hn : n ≤ 2000) (hI : I 2 1 = nI n) : f_X10_feed 1 w1 w2 w3 w4 w5 I (zE_R sw) = if n + 20 ≤ 2000 then some (nI (n + 20), zE_ap20 I 3 2 1 n w1 w2 w3 w4 w5) else some (-1, I) := by
  unfold f_X10_feed
  simp only [zE_gC, zE_rC sw, zw_g_t, hI]
  have e20 : nI n + 20 = nI (n + 20) := nI_add n 20
  rw [e20]
  by_cases h : n + 20 ≤ 2000
  · rw [if_pos (show nI (n + 20) ≤ 2000 from nI_le (b := 2000) h (by decide)), if_pos h]
    simp only [zE_app (sw := sw) (w := w1) (I := I) (m := n) (by omega) hI, Option.bind_some,
      zE_app (sw := sw) (w := w2) (m := n + 4) (by omega) (zE_ap4_len I 3 2 1 n w1),
      zE_app (sw := sw) (w := w3) (m := n + 8) (by omega) (zE_ap4_len _ 3 2 1 (n + 4) w2),
      zE_app (sw := sw) (w := w4) (m := n + 12) (by omega) (zE_ap4_len _ 3 2 1 (n + 8) w3),
      zE_app (sw := sw) (w := w5) (m := n + 16) (by omega) (zE_ap4_len _ 3 2 1 (n + 12) w4), zE_ap4_len]
    rfl
  · rw [if_neg (show ¬ nI (n + 20) ≤ 2000 from nI_ge (a := 2000) (by omega) (by omega)), if_neg h]
theorem zE_feedM {sw : Bool} {I : zI} {n : Nat} (w1 w2 w3 w4 w5 : Int32) (hn : n ≤ 2000) (hI : I 148 2 = nI n) : f_X11_feed 148 w1 w2 w3 w4 w5 I (zE_R sw) = if n + 20 ≤ 2000 then some (nI (n + 20), zE_ap20 I 149 148 2 n w1 w2 w3 w4 w5) else some (-1, I) := by
  unfold f_X11_feed
  simp only [zE_gM, zw_g_t, hI]
  have e20 : nI n + 20 = nI (n + 20) := nI_add n 20
  rw [e20]
  by_cases h : n + 20 ≤ 2000
  · rw [if_pos (show nI (n + 20) ≤ 2000 from nI_le (b := 2000) h (by decide)), if_pos h]
    simp only [zE_put (sw := sw) (w := w1) (I := I) (m := n) (by omega) hI, Option.bind_some,
      zE_put (sw := sw) (w := w2) (m := n + 4) (by omega) (zE_ap4_len I 149 148 2 n w1),
      zE_put (sw := sw) (w := w3) (m := n + 8) (by omega) (zE_ap4_len _ 149 148 2 (n + 4) w2),
      zE_put (sw := sw) (w := w4) (m := n + 12) (by omega) (zE_ap4_len _ 149 148 2 (n + 8) w3),
      zE_put (sw := sw) (w := w5) (m := n + 16) (by omega) (zE_ap4_len _ 149 148 2 (n + 12) w4), zE_ap4_len]
    rfl
  · rw [if_neg (show ¬ nI (n + 20) ≤ 2000 from nI_ge (a := 2000) (by omega) (by omega)), if_neg h]
