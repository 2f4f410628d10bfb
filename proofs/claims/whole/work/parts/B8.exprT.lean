/-! ===== the model: sums, a whole expression ===== -/
theorem zm_P {sw : Bool} {T : Nat → Nat} {n : Nat} {I0 : zI} {J : zJ} {m0 t0 d : Nat} {Post : zI ⊕ (zI ⊕ zI) → Prop} {U : Nat → zp_O} {W : List Nat} {C : List zr_C} (hY : zp_Y T n I0 J) (hm0 : m0 ≤ 520 + t0) (hd : d ≤ 6) (hU0 : ∀ t, t ≤ 500 → zt_go T n t → zp_ok T n t (U t)) (hU : zm_UR sw T n I0 m0 t0 d Post U) (hW : W.length ≤ 3 * d) (hwo : zm_wo W) (hbs : zm_base W) : ∀ (f t w : Nat) (c : List zr_C) (I : zI), 501 - t ≤ f + 1 → 1 ≤ f → zm_G T n I0 I m0 t d (zm_wl w ++ W) (C ++ c) (0, 0) → (w = 0 ∨ w = 8 ∨ w = 9) → (C ++ c).length + (zm_wl w ++ W).length + t0 ≤ t → t ≤ 500 → zt_go T n t → (∀ x, zp_P U (zt_K T n) f t c w = .inl x → ∀ I' ws m, zm_G T n I0 I' m0 x.1 d (ws ++ W) (C ++ m) (0, 0) → (∀ v, v ∈ ws → (v = 8 ∨ v = 9 ∨ v = 10 ∨ v = 15)) → ws.length ≤ 2 → m ++ ws.map (fun v => (zm_wk v, 0)) = x.2 → ¬ zm_isop (zt_K T n x.1) → zm_B (zE_R sw) Post x.1 I') → (∀ y, zp_P U (zt_K T n) f t c w = .inr y → zm_PF T n I0 m0 t0 Post y) → zm_A (zE_R sw) Post t I
  | 0, t, w, c, I, hfu, hf1, h, hw, hl, ht, hg, hok, hf => by omega
  | f + 1, t, w, c, I, hfu, hf1, h, hw, hl, ht, hg, hok, hf => by
    have l2 := zm_wl_len w
    have lzb : (zm_wl w ++ W).length = (zm_wl w).length + W.length := List.length_append
    have hww : w = 0 ∨ w = 8 ∨ w = 9 ∨ w = 10 ∨ w = 11 := by omega
    have wob : zm_wo (zm_wl w ++ W) := fun x hx => by
      rcases List.mem_append.mp hx with hx | hx
      · have := zm_wl_m hww hx; omega
      · exact hwo x hx
    have uo := hU0 t ht hg
    refine hU I t (zm_wl w ++ W) (C ++ c) h hl (by omega) wob ht hg (fun x hx I2 h2 => ?_) (fun y hy => hf y (by unfold zp_P; rw [hy]))
    rw [hx] at uo
    obtain ⟨u1, u2, u3, u4⟩ := uo
    have eP : zp_P U (zt_K T n) (f + 1) t c w = (match zp_M U (zt_K T n) 500 x.1 x.2 with
        | .inr y => .inr y
        | .inl y => if zt_K T n y.1 = 8 ∨ zt_K T n y.1 = 9 then (if y.1 < 500 then zp_P U (zt_K T n) f (y.1 + 1) (c ++ (y.2 ++ zp_w w)) (zt_K T n y.1) else .inr (2, y.1)) else .inl (y.1, c ++ (y.2 ++ zp_w w))) := by
      rw [zp_P, hx]
      dsimp only
      cases zp_M U (zt_K T n) 500 x.1 x.2 <;> rfl
    rw [eP] at hok hf
    have lx : (C ++ c ++ x.2).length = (C ++ c).length + x.2.length := List.length_append
    have e0 : x.2 ++ zp_w 0 = x.2 := List.append_nil _
    have mo := zp_M_ok (t0 := t) hU0 500 x.1 x.2 u1 u2 u3 u4
    refine zm_M (C := C ++ c) (w := w) hY hm0 hd hU0 hU hW hwo hbs hw 500 x.1 0 x.2 I2 (by omega) h2 (Or.inl rfl) (by rw [lx]; show _ + (zm_wl w ++ W).length + t0 ≤ x.1; omega) u2 u3 (fun y hy I3 c3 p2 h3 hp2 ey hly hy5 hgy nmul => ?_) (fun y hy => hf y (by rw [e0] at hy; rw [hy]))
    rw [e0] at hy
    rw [hy] at hok hf mo
    obtain ⟨y1, y2, y3, y4⟩ := mo
    dsimp only at hok hf
    have l3 := zm_wl_len p2
    have hwp : p2 = 0 ∨ p2 = 8 ∨ p2 = 9 ∨ p2 = 10 ∨ p2 = 11 := by omega
    have lz : (zm_wl p2 ++ (zm_wl w ++ W)).length = (zm_wl p2).length + ((zm_wl w).length + W.length) := by rw [List.length_append, List.length_append]
    have assoc : zm_wl p2 ++ (zm_wl w ++ W) = (zm_wl p2 ++ zm_wl w) ++ W := (List.append_assoc _ _ _).symm
    rw [assoc] at h3
    have ops : ∀ v, v ∈ zm_wl p2 ++ zm_wl w → (v = 8 ∨ v = 9 ∨ v = 10 ∨ v = 15) := fun v hv => by
      rcases List.mem_append.mp hv with hv | hv
      · have := zm_wl_m hwp hv; omega
      · have := zm_wl_m hww hv; omega
    have outs : (zm_wl p2 ++ zm_wl w).map (fun v => (zm_wk v, 0)) = zp_w p2 ++ zp_w w := by rw [List.map_append, zm_wl_w hwp, zm_wl_w hww]
    have lws : (zm_wl p2 ++ zm_wl w).length = (zm_wl p2).length + (zm_wl w).length := List.length_append
    have ec : c ++ c3 ++ (zp_w p2 ++ zp_w w) = c ++ (y.2 ++ zp_w w) := by rw [ey, List.append_assoc, List.append_assoc]
    by_cases c1 : zt_K T n y.1 = 8 ∨ zt_K T n y.1 = 9
    · rw [if_pos c1] at hok hf
      have lw2 : ((zm_wl p2 ++ zm_wl w) ++ W).length = (zm_wl p2 ++ (zm_wl w ++ W)).length := by rw [assoc]
      have hb : zm_bd m0 t0 y.1 d ((zm_wl p2 ++ zm_wl w) ++ W) (C ++ c ++ c3) := ⟨hm0, hy5, by omega, by omega, by omega, fun v hv => by
        rcases List.mem_append.mp hv with hv | hv
        · have := ops v hv; omega
        · exact hwo v hv⟩
      refine zm_op false hY h3 hb (by omega) hgy (Or.inr ⟨rfl, c1⟩) (fun v hv => ⟨ops v hv, fun r => ?_⟩) (fun v B2 e => ?_) (by omega) (fun ct I' h' => ?_) (fun q => hf (2, y.1) (by rw [if_neg q]))
      · rcases r with r | ⟨r, -⟩
        · have := ops v hv; omega
        · cases r
      · rw [hbs v B2 e]; exact ⟨by decide, Or.inl rfl⟩
      · rw [if_pos ct] at hok hf
        rw [outs, List.append_assoc, List.append_assoc, ← List.append_assoc c c3, ec] at h'
        have ek : zm_wl (zt_K T n y.1) = [zt_mk (zt_K T n y.1)] := by unfold zm_wl; rw [if_neg (by omega)]
        have h4 : zm_G T n I0 I' m0 (y.1 + 1) d (zm_wl (zt_K T n y.1) ++ W) (C ++ (c ++ (y.2 ++ zp_w w))) (0, 0) := by rw [ek]; exact h'
        have ly : y.2.length = c3.length + (zm_wl p2).length := by rw [ey, List.length_append, ← zm_wl_w hwp, List.length_map]
        have lw : (zp_w w).length = (zm_wl w).length := by rw [← zm_wl_w hww, List.length_map]
        have lC : (C ++ (c ++ (y.2 ++ zp_w w))).length = (C ++ c ++ c3).length + (zm_wl p2).length + (zm_wl w).length := by simp only [List.length_append]; omega
        exact zm_P hY hm0 hd hU0 hU hW hwo hbs f (y.1 + 1) (zt_K T n y.1) _ I' (by omega) (by omega) h4 (Or.inr c1) (by rw [lC, ek]; show _ + (W.length + 1) + t0 ≤ y.1 + 1; omega) (by omega) (zp_go hgy (by omega) (by omega)) hok hf
    · rw [if_neg c1] at hok hf
      rw [List.append_assoc C c c3] at h3
      exact hok (y.1, c ++ (y.2 ++ zp_w w)) rfl I3 (zm_wl p2 ++ zm_wl w) (c ++ c3) h3 ops (by omega) (by rw [outs, ec]) (fun r => by unfold zm_isop at r; dsimp only at r; omega)
theorem zm_S {sw : Bool} {T : Nat → Nat} {n : Nat} {I0 : zI} {J : zJ} {m0 t0 : Nat} {Post : zI ⊕ (zI ⊕ zI) → Prop} (hY : zp_Y T n I0 J) (hm0 : m0 ≤ 520 + t0) : ∀ (m d : Nat), d + m = 8 → 2 ≤ m → zm_SR sw T n I0 m0 t0 d Post (zp_S (zt_K T n) (zp_V T n) m d)
  | 0, d, hd, hm => by omega
  | m + 1, d, hd, hm => by
    intro I t W c h hl hW hwo hbs ht hg hok hf
    have hS0 : ∀ t, t ≤ 500 → zt_go T n t → zp_ok T n t (zp_S (zt_K T n) (zp_V T n) m (d + 1) t) := fun t h1 h2 => zp_S_ok m (d + 1) t h1 h2
    have hU := zm_U (sw := sw) (Post := Post) (S := zp_S (zt_K T n) (zp_V T n) m (d + 1)) hY hm0 (show d ≤ 6 by omega) (fun _ => hS0) (fun d6 => zm_S hY hm0 m (d + 1) (by omega) (by omega))
    have h' : zm_G T n I0 I m0 t d (zm_wl 0 ++ W) (c ++ []) (0, 0) := by rw [List.append_nil]; exact h
    exact zm_P (C := c) hY hm0 (by omega) (fun t h1 h2 => zp_U_ok (fun _ => hS0) h1 h2) hU hW hwo hbs 500 t 0 [] I (by omega) (by decide) h' (Or.inl rfl) (by rw [List.append_nil]; exact hl) ht hg hok hf
theorem zm_split : ∀ (W : List Nat), zm_wo W → ∃ A B, W = A ++ B ∧ (∀ w, w ∈ A → (w = 8 ∨ w = 9 ∨ w = 10 ∨ w = 15)) ∧ ∀ w B2, B = w :: B2 → w = 6
  | [], _ => ⟨[], [], rfl, fun w hw => absurd hw (List.not_mem_nil), fun w B2 e => by cases e⟩
  | w :: W, h => by
    by_cases w6 : w = 6
    · exact ⟨[], w :: W, rfl, fun w hw => absurd hw (List.not_mem_nil), fun v B2 e => by cases e; exact w6⟩
    · obtain ⟨A, B, e, h1, h2⟩ := zm_split W (fun v hv => h v (List.mem_cons_of_mem _ hv))
      refine ⟨w :: A, B, by rw [e]; rfl, fun v hv => ?_, h2⟩
      rcases List.mem_cons.mp hv with rfl | hv
      · have := h v (List.mem_cons_self ..); omega
      · exact h1 v hv
/-- what an expression leaves: the outcome ω -/
def zm_R (T : Nat → Nat) (n : Nat) (I0 I : zI) (m0 t0 : Nat) (ω : zp_O) : Prop := match ω with
  | .inl x => zm_G T n I0 I m0 x.1 0 [] x.2 (0, 0)
  | .inr y => ∃ t o W c, zm_G T n I0 I m0 t o W c y ∧ t ≤ 500 ∧ m0 + c.length ≤ 1040 ∧ c.length + t0 ≤ 501
theorem zm_204 {sw : Bool} {T : Nat → Nat} {n : Nat} {I0 I : zI} {m0 t0 t o : Nat} {W : List Nat} {c : List zr_C} {φ : Nat × Nat} (h : zm_G T n I0 I m0 t o W c φ) (hb : zm_bd m0 t0 t o W c) : ∃ I2 A B, j_X11_expression_204 148 I (zE_R sw) = some I2 ∧ W = A ++ B ∧ (∀ w B2, B = w :: B2 → w = 6) ∧ zm_G T n I0 I2 m0 t o B (c ++ A.map (fun w => (zm_wk w, 0))) φ ∧ m0 + (c ++ A.map (fun w => (zm_wk w, 0))).length ≤ 1040 ∧ (c ++ A.map (fun w => (zm_wk w, 0))).length + t0 ≤ 501 := by
  obtain ⟨b1, b2, b3, b4, b5, b6⟩ := hb
  obtain ⟨A, B, e, h1, h2⟩ := zm_split W b6
  rw [e] at h b3 b4
  have la : (A ++ B).length = A.length + B.length := List.length_append
  obtain ⟨I2, q1, q2⟩ := zm_comesOut (sw := sw) (sv := 0) false A B c rfl h (by omega) (by omega) (fun w hw => ⟨h1 w hw, fun r => by rcases r with r | ⟨r, -⟩; have := h1 w hw; omega; cases r⟩) (fun w B2 e2 => by rw [h2 w B2 e2]; exact ⟨by decide, Or.inl rfl⟩)
  refine ⟨I2, A, B, ?_, e, h2, q2, by rw [List.length_append, List.length_map]; omega, by rw [List.length_append, List.length_map]; omega⟩
  unfold j_X11_expression_204
  rw [zp_g148.1, zw_g_t, q1, Option.bind_some]
/-- a whole E -/
theorem zm_expression {sw : Bool} {T : Nat → Nat} {n : Nat} {I0 I : zI} {J : zJ} {m0 t : Nat} {W : List Nat} (hY : zp_Y T n I0 J) (h : zm_G T n I0 I m0 t 0 W [] (0, 0)) (hm0 : m0 ≤ 520 + t) (ht : t ≤ 500) (hg : zt_go T n t) : ∃ I2, f_X11_expression 148 I (zE_R sw) = some I2 ∧ zm_R T n I0 I2 m0 t (zp_S (zt_K T n) (zp_V T n) 8 0 t) := by
  obtain ⟨a1, a2, a3, a4, a5, a6, a7, a8, a9, a10, a11⟩ := id h
  obtain ⟨I1, e1⟩ : ∃ I1, I1 = zw_u I 148 48 0 := ⟨_, rfl⟩
  have f : ∀ y, y ≠ 48 → I1 148 y = I 148 y := fun y hy => by rw [e1, zE_u2 _ _ (by omega)]
  have g : ∀ a, a ≠ 148 → I1 a = I a := fun a ha => by rw [e1, zw_u_off _ _ _ ha]
  have h1 : zm_G T n I0 I1 m0 t 0 [] [] (0, 0) := ⟨fun a b1 b2 b3 b4 => (g a b1).trans (a1 a b1 b2 b3 b4), (f 13 (by decide)).trans a2, fun q => absurd rfl q, (f 11 (by decide)).trans a4, (f 12 (by decide)).trans a5, (f 44 (by decide)).trans a6, by rw [e1, zE_u1]; rfl, trivial, fun y b1 b2 b3 b4 b5 b6 => (f y b6).trans (a9 y b1 b2 b3 b4 b5 b6), trivial, fun i hi => by rw [g 179 (by decide), g 180 (by decide)]; exact a11 i hi⟩
  have so := zp_S_ok (T := T) (n := n) (V := zp_V T n) 8 0 t ht hg
  -- how the loop's end is the method's
  obtain ⟨fin, hfin⟩ : ∃ fin : zI ⊕ (zI ⊕ zI) → Option zI, fin = fun q56 => (match q56 with | .inl a57 => (some a57) | .inr a58 => (match a58 with | .inl a59 => (some a59) | .inr a60 => (if (a60 148 12) ≤ 0 then j_X11_expression_204 148 a60 (zE_R sw) else (f_X11_fail 148 1 a60 (zE_R sw)).bind fun q64 => (j_X11_expression_204 148 q64 (zE_R sw))))) := ⟨_, rfl⟩
  have main : zm_A (zE_R sw) (fun r => ∃ I2, fin r = some I2 ∧ zm_R T n I0 I2 m0 t (zp_S (zt_K T n) (zp_V T n) 8 0 t)) t I1 := by
    refine zm_S hY hm0 8 0 rfl (by decide) I1 t [] [] h1 (by show 0 + 0 + t ≤ t; omega) (by decide) (fun w hw => absurd hw (List.not_mem_nil)) (fun w W2 e => by cases e) ht hg (fun x hx I' ws m h' hws lws em nop => ?_) (fun y hy => ⟨fun I' t2 o W2 c h' hb => ?_, fun y1 I' o W2 c h' ho hgo hb => ?_⟩)
    · rw [hx] at so
      obtain ⟨s1, s2, s3, s4⟩ := so
      rw [List.append_nil] at h'
      have h' : zm_G T n I0 I' m0 x.1 0 ws m (0, 0) := h'
      have lx : x.2.length = m.length + ws.length := by rw [← em, List.length_append, List.length_map]
      refine zm_end hY h' s2 s3 nop (Or.inr rfl) ?_
      have hb : zm_bd m0 t x.1 0 ws m := ⟨hm0, s2, by omega, by omega, by decide, fun w hw => by have := hws w hw; omega⟩
      obtain ⟨I2, A, B, q1, q2, q3, q4, -⟩ := zm_204 (sw := sw) h' hb
      refine ⟨I2, ?_, ?_⟩
      · rw [hfin]
        show (if I' 148 12 ≤ 0 then _ else _) = _
        rw [if_pos (show I' 148 12 ≤ 0 by rw [h'.2.2.2.2.1]; decide), q1]
      · rw [hx]
        have B0 : B = [] := by
          match B, q2, q3 with
          | [], _, _ => rfl
          | w :: B, q2, q3 =>
            have w6 := q3 w B rfl
            have := hws w (by rw [q2]; exact List.mem_append_right _ (List.mem_cons_self ..))
            omega
        rw [B0, List.append_nil] at q2
        rw [B0, ← q2, em] at q4
        exact q4
    · rw [hy] at so ⊢
      have l1 : m0 + c.length ≤ 1040 ∧ c.length + t ≤ 501 := by have := hb.1; have := hb.2.1; have := hb.2.2.1; omega
      refine ⟨⟨I', by rw [hfin], t2, o, W2, c, h', hb.2.1, l1⟩, ⟨I', by rw [hfin], t2, o, W2, c, h', hb.2.1, l1⟩, ?_⟩
      obtain ⟨I2, A, B, q1, q2, q3, q4, q5⟩ := zm_204 (sw := sw) h' hb
      refine ⟨I2, ?_, t2, o, B, _, q4, hb.2.1, q5⟩
      rw [hfin]
      show (if I' 148 12 ≤ 0 then _ else _) = _
      by_cases o0 : I' 148 12 ≤ 0
      · rw [if_pos o0, q1]
      · rw [if_neg o0, zp_failF so.1 h'.2.1, Option.bind_some, q1]
    · rw [hy] at so ⊢
      obtain ⟨yf, ye⟩ := y
      dsimp only at y1 h' hgo hb
      subst y1
      obtain ⟨I2, f1, f2⟩ := zm_fail (sw := sw) hY h' hb.2.1 hgo 1
      have f1 : f_X11_fail 148 1 I' (zE_R sw) = some I2 := f1
      obtain ⟨I3, A, B, q1, q2, q3, q4, q5⟩ := zm_204 (sw := sw) f2 hb
      refine ⟨I3, ?_, ye, o, B, _, q4, hb.2.1, q5⟩
      rw [hfin]
      show (if I' 148 12 ≤ 0 then _ else _) = _
      have o7 := hb.2.2.2.2.1
      rw [if_neg (show ¬ I' 148 12 ≤ 0 by rw [h'.2.2.2.2.1]; exact nI_nle ho (by omega)), f1, Option.bind_some, q1]
  obtain ⟨r, r1, I2, r2, r3⟩ := main 1000000 999999 (by omega) (by omega)
  refine ⟨I2, ?_, r3⟩
  have e12 : I1 148 12 = 0 := h1.2.2.2.2.1
  unfold f_X11_expression
  rw [zp_g148.1, zw_g_t, zw_let_e, ← e1, e12, zw_let_e, show (1000000 : Nat) = 999999 + 1 from rfl, zm_s12 999999 (show I1 148 13 = 0 from h1.2.1), r1, Option.bind_some]
  rw [hfin] at r2
  exact r2
