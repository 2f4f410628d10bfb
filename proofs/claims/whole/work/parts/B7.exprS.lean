/-! ===== the model: units, products, sums, a whole expression ===== -/
def zm_wl (w : Nat) : List Nat := if w = 0 then [] else [zt_mk w]
theorem zm_wl_len (w : Nat) : (zm_wl w).length ≤ 1 := by
  unfold zm_wl
  split
  · exact Nat.zero_le _
  · exact Nat.le_refl _
theorem zm_wl_w {w : Nat} (h : w = 0 ∨ w = 8 ∨ w = 9 ∨ w = 10 ∨ w = 11) : (zm_wl w).map (fun w => (zm_wk w, 0)) = zp_w w := by
  rcases h with rfl | rfl | rfl | rfl | rfl <;> rfl
theorem zm_wl_m {w x : Nat} (h : w = 0 ∨ w = 8 ∨ w = 9 ∨ w = 10 ∨ w = 11) (hx : x ∈ zm_wl w) : (x = 8 ∧ w = 8) ∨ (x = 9 ∧ w = 9) ∨ (x = 10 ∧ w = 10) ∨ (x = 15 ∧ w = 11) := by
  rcases h with rfl | rfl | rfl | rfl | rfl
  · exact absurd hx (List.not_mem_nil)
  · exact Or.inl ⟨List.mem_singleton.mp hx, rfl⟩
  · exact Or.inr (Or.inl ⟨List.mem_singleton.mp hx, rfl⟩)
  · exact Or.inr (Or.inr (Or.inl ⟨List.mem_singleton.mp hx, rfl⟩))
  · exact Or.inr (Or.inr (Or.inr ⟨List.mem_singleton.mp hx, rfl⟩))
/-- a level begins: nothing waits, or a parenthesis -/
def zm_base (W : List Nat) : Prop := ∀ w W2, W = w :: W2 → w = 6
/-- reading a unit at depth d leads from before it to behind it -/
def zm_UR (sw : Bool) (T : Nat → Nat) (n : Nat) (I0 : zI) (m0 t0 d : Nat) (Post : zI ⊕ (zI ⊕ zI) → Prop) (U : Nat → zp_O) : Prop := ∀ (I : zI) (t : Nat) (W : List Nat) (c : List zr_C), zm_G T n I0 I m0 t d W c (0, 0) → c.length + W.length + t0 ≤ t → W.length ≤ 3 * d + 2 → zm_wo W → t ≤ 500 → zt_go T n t → (∀ x, U t = .inl x → ∀ I', zm_G T n I0 I' m0 x.1 d W (c ++ x.2) (0, 0) → zm_B (zE_R sw) Post x.1 I') → (∀ y, U t = .inr y → zm_PF T n I0 m0 t0 Post y) → zm_A (zE_R sw) Post t I
def zm_isop (k : Nat) : Prop := 8 ≤ k ∧ k ≤ 11
/-- and a sum -/
def zm_SR (sw : Bool) (T : Nat → Nat) (n : Nat) (I0 : zI) (m0 t0 d : Nat) (Post : zI ⊕ (zI ⊕ zI) → Prop) (S : Nat → zp_O) : Prop := ∀ (I : zI) (t : Nat) (W : List Nat) (c : List zr_C), zm_G T n I0 I m0 t d W c (0, 0) → c.length + W.length + t0 ≤ t → W.length ≤ 3 * d → zm_wo W → zm_base W → t ≤ 500 → zt_go T n t → (∀ x, S t = .inl x → ∀ I' ws m, zm_G T n I0 I' m0 x.1 d (ws ++ W) (c ++ m) (0, 0) → (∀ w, w ∈ ws → (w = 8 ∨ w = 9 ∨ w = 10 ∨ w = 15)) → ws.length ≤ 2 → m ++ ws.map (fun w => (zm_wk w, 0)) = x.2 → ¬ zm_isop (zt_K T n x.1) → zm_B (zE_R sw) Post x.1 I') → (∀ y, S t = .inr y → zm_PF T n I0 m0 t0 Post y) → zm_A (zE_R sw) Post t I
theorem zm_U {sw : Bool} {T : Nat → Nat} {n : Nat} {I0 : zI} {J : zJ} {m0 t0 d : Nat} {Post : zI ⊕ (zI ⊕ zI) → Prop} {S : Nat → zp_O} (hY : zp_Y T n I0 J) (hm0 : m0 ≤ 520 + t0) (hd : d ≤ 6) (hS0 : d < 6 → ∀ t, t ≤ 500 → zt_go T n t → zp_ok T n t (S t)) (hS : d < 6 → zm_SR sw T n I0 m0 t0 (d + 1) Post S) : zm_UR sw T n I0 m0 t0 d Post (zp_U S (zt_K T n) (zp_V T n) d) := by
  intro I t W c h hl hW hwo ht hg hok hf
  have hb : zm_bd m0 t0 t d W c := ⟨hm0, ht, by omega, by omega, by omega, hwo⟩
  by_cases h12 : zt_K T n t = 12
  · refine zm_open hY h hb hl hd hg h12 (fun d6 ct I' h' => ?_) (fun q => hf (2, t) (by unfold zp_U; rw [if_pos h12, if_neg q]))
    have wo6 : zm_wo (6 :: W) := fun w hw => by
      rcases List.mem_cons.mp hw with rfl | hw
      · exact Or.inl rfl
      · exact hwo w hw
    have g1 := zp_go hg (by omega) (by omega)
    have so := hS0 d6 (t + 1) (by omega) g1
    refine hS d6 I' (t + 1) (6 :: W) c h' (by show c.length + (W.length + 1) + t0 ≤ t + 1; omega) (by show W.length + 1 ≤ 3 * (d + 1); omega) wo6 (fun w W2 e => by cases e; rfl) (by omega) g1 (fun x hx I2 ws m h2 hws lws em nop => ?_) (fun y hy => hf y (by unfold zp_U; rw [if_pos h12, if_pos ⟨d6, ct⟩, hy]))
    rw [hx] at so
    obtain ⟨s1, s2, s3, s4⟩ := so
    have lx : x.2.length = m.length + ws.length := by rw [← em, List.length_append, List.length_map]
    have lw : (ws ++ 6 :: W).length = ws.length + (W.length + 1) := List.length_append
    have lcm : (c ++ m).length = c.length + m.length := List.length_append
    have hb2 : zm_bd m0 t0 x.1 (d + 1) (ws ++ 6 :: W) (c ++ m) := ⟨hm0, s2, by omega, by omega, by omega, fun w hw => by
      rcases List.mem_append.mp hw with hw | hw
      · have := hws w hw; omega
      · exact wo6 w hw⟩
    by_cases k13 : zt_K T n x.1 = 13
    · refine zm_close hY h2 hb2 (by omega) s3 k13 hws (by omega) (fun ct2 I3 h3 => ?_) (fun q => hf (2, x.1) (by unfold zp_U; rw [if_pos h12, if_pos ⟨d6, ct⟩, hx]; dsimp only; rw [if_pos k13, if_neg q]))
      rw [List.append_assoc, em] at h3
      exact hok (x.1 + 1, x.2) (by unfold zp_U; rw [if_pos h12, if_pos ⟨d6, ct⟩, hx]; dsimp only; rw [if_pos k13, if_pos ct2]) I3 h3
    · refine zm_end hY h2 s2 s3 nop (Or.inl k13) ?_
      have hP := hf (1, x.1) (by unfold zp_U; rw [if_pos h12, if_pos ⟨d6, ct⟩, hx]; dsimp only; rw [if_neg k13])
      exact hP.2 rfl I2 (d + 1) _ _ h2 (by omega) s3 hb2
  · exact zm_unit hY h hb hl hg h12 hok hf
theorem zm_M {sw : Bool} {T : Nat → Nat} {n : Nat} {I0 : zI} {J : zJ} {m0 t0 d : Nat} {Post : zI ⊕ (zI ⊕ zI) → Prop} {U : Nat → zp_O} {W : List Nat} {C : List zr_C} {w : Nat} (hY : zp_Y T n I0 J) (hm0 : m0 ≤ 520 + t0) (hd : d ≤ 6) (hU0 : ∀ t, t ≤ 500 → zt_go T n t → zp_ok T n t (U t)) (hU : zm_UR sw T n I0 m0 t0 d Post U) (hW : W.length ≤ 3 * d) (hwo : zm_wo W) (hbs : zm_base W) (hw : w = 0 ∨ w = 8 ∨ w = 9) : ∀ (f t p : Nat) (c2 : List zr_C) (I : zI), 501 - t ≤ f → zm_G T n I0 I m0 t d (zm_wl p ++ (zm_wl w ++ W)) (C ++ c2) (0, 0) → (p = 0 ∨ p = 10 ∨ p = 11) → (C ++ c2).length + (zm_wl p ++ (zm_wl w ++ W)).length + t0 ≤ t → t ≤ 500 → zt_go T n t → (∀ x, zp_M U (zt_K T n) f t (c2 ++ zp_w p) = .inl x → ∀ I' c3 p2, zm_G T n I0 I' m0 x.1 d (zm_wl p2 ++ (zm_wl w ++ W)) (C ++ c3) (0, 0) → (p2 = 0 ∨ p2 = 10 ∨ p2 = 11) → x.2 = c3 ++ zp_w p2 → (C ++ c3).length + (zm_wl p2 ++ (zm_wl w ++ W)).length + t0 ≤ x.1 → x.1 ≤ 500 → zt_go T n x.1 → ¬ (zt_K T n x.1 = 10 ∨ zt_K T n x.1 = 11) → zm_B (zE_R sw) Post x.1 I') → (∀ y, zp_M U (zt_K T n) f t (c2 ++ zp_w p) = .inr y → zm_PF T n I0 m0 t0 Post y) → zm_B (zE_R sw) Post t I
  | 0, t, p, c2, I, hfu, h, hp, hl, ht, hg, hok, hf => by omega
  | f + 1, t, p, c2, I, hfu, h, hp, hl, ht, hg, hok, hf => by
    have l1 := zm_wl_len p
    have l2 := zm_wl_len w
    have lz : (zm_wl p ++ (zm_wl w ++ W)).length = (zm_wl p).length + ((zm_wl w).length + W.length) := by rw [List.length_append, List.length_append]
    have lzb : (zm_wl w ++ W).length = (zm_wl w).length + W.length := List.length_append
    have hwp : p = 0 ∨ p = 8 ∨ p = 9 ∨ p = 10 ∨ p = 11 := by omega
    have hww : w = 0 ∨ w = 8 ∨ w = 9 ∨ w = 10 ∨ w = 11 := by omega
    have wob : zm_wo (zm_wl w ++ W) := fun x hx => by
      rcases List.mem_append.mp hx with hx | hx
      · have := zm_wl_m hww hx; omega
      · exact hwo x hx
    by_cases c1 : zt_K T n t = 10 ∨ zt_K T n t = 11
    · have hb : zm_bd m0 t0 t d (zm_wl p ++ (zm_wl w ++ W)) (C ++ c2) := ⟨hm0, ht, by omega, by omega, by omega, fun x hx => by
        rcases List.mem_append.mp hx with hx | hx
        · have := zm_wl_m hwp hx; omega
        · exact wob x hx⟩
      refine zm_op true hY h hb hl hg (Or.inl ⟨rfl, c1⟩) (fun x hx => ?_) (fun x B2 e => ?_) (by omega) (fun ct I' h' => ?_) (fun q => hf (2, t) (by unfold zp_M; rw [if_pos c1, if_neg q]))
      · have := zm_wl_m hwp hx
        refine ⟨by omega, fun r => ?_⟩
        rcases r with r | ⟨-, r⟩ <;> omega
      · by_cases w0 : w = 0
        · subst w0
          have e : W = x :: B2 := e
          rw [hbs x B2 e]
          exact ⟨by decide, Or.inl rfl⟩
        · have e : zt_mk w :: W = x :: B2 := by unfold zm_wl at e; rw [if_neg w0] at e; exact e
          cases e
          rcases hw with q | rfl | rfl
          · exact absurd q w0
          · exact ⟨by decide, Or.inr ⟨rfl, Or.inl rfl⟩⟩
          · exact ⟨by decide, Or.inr ⟨rfl, Or.inr rfl⟩⟩
      · rw [zm_wl_w hwp, List.append_assoc] at h'
        have g1 := zp_go hg (by omega) (by omega)
        have uo := hU0 (t + 1) (by omega) g1
        have ek : zm_wl (zt_K T n t) = [zt_mk (zt_K T n t)] := by unfold zm_wl; rw [if_neg (by omega)]
        have ew : zp_w (zt_K T n t) = [(zt_K T n t - 6, 0)] := by unfold zp_w; rw [if_neg (by omega)]
        have lp : (zp_w p).length = (zm_wl p).length := by rw [← zm_wl_w hwp, List.length_map]
        have lc : (C ++ (c2 ++ zp_w p)).length = (C ++ c2).length + (zm_wl p).length := by rw [← List.append_assoc, List.length_append, lp]
        refine hU I' (t + 1) (zt_mk (zt_K T n t) :: (zm_wl w ++ W)) (C ++ (c2 ++ zp_w p)) h' (by show _ + ((zm_wl w ++ W).length + 1) + t0 ≤ t + 1; omega) (by show (zm_wl w ++ W).length + 1 ≤ 3 * d + 2; omega) (fun x hx => ?_) (by omega) g1 (fun x hx I2 h2 => ?_) (fun y hy => hf y (by unfold zp_M; rw [if_pos c1, if_pos ct, hy]))
        · rcases List.mem_cons.mp hx with rfl | hx
          · rcases c1 with c1 | c1 <;> rw [c1] <;> decide
          · exact wob x hx
        · rw [hx] at uo
          obtain ⟨u1, u2, u3, u4⟩ := uo
          rw [List.append_assoc] at h2
          have eq : zp_M U (zt_K T n) (f + 1) t (c2 ++ zp_w p) = zp_M U (zt_K T n) f x.1 ((c2 ++ zp_w p ++ x.2) ++ zp_w (zt_K T n t)) := by
            show (if zt_K T n t = 10 ∨ zt_K T n t = 11 then _ else _) = _
            rw [if_pos c1, if_pos ct, hx, ew]
            dsimp only
            rw [← List.append_assoc]
          rw [eq] at hok hf
          have h3 : zm_G T n I0 I2 m0 x.1 d (zm_wl (zt_K T n t) ++ (zm_wl w ++ W)) (C ++ (c2 ++ zp_w p ++ x.2)) (0, 0) := by rw [ek]; exact h2
          have lx : (C ++ (c2 ++ zp_w p ++ x.2)).length = (C ++ (c2 ++ zp_w p)).length + x.2.length := by rw [← List.append_assoc, List.length_append]
          exact zm_M hY hm0 hd hU0 hU hW hwo hbs hw f x.1 (zt_K T n t) _ I2 (by omega) h3 (by omega) (by rw [lx, ek]; show _ + ((zm_wl w ++ W).length + 1) + t0 ≤ x.1; omega) u2 u3 hok hf
    · have eq : zp_M U (zt_K T n) (f + 1) t (c2 ++ zp_w p) = .inl (t, c2 ++ zp_w p) := by
        unfold zp_M
        rw [if_neg c1]
      exact hok _ eq I c2 p h hp rfl hl ht hg c1
