/-! ===== a condition, as the model reads it ===== -/
theorem zm_s77 {R : zR} {J : zJ} {I : zI} {v1 v2 v : Int32} (N : Nat) : zw_it (s_X11_tellRule_77 148 v1 v2 R J) (N + 1) (0, v, I) = some I := by
  refine zE_it0 N ?_
  unfold s_X11_tellRule_77
  dsimp only
  rw [if_pos rfl]
theorem zm_s77D {R : zR} {J : zJ} {I : zI} {v1 v2 v : Int32} (N : Nat) (h : ¬ I 148 13 = 0) : zw_it (s_X11_tellRule_77 148 v1 v2 R J) (N + 1) (1, v, I) = some I := by
  refine zE_it0 N ?_
  unfold s_X11_tellRule_77
  dsimp only
  rw [if_neg zE_10, zp_g148.1, zw_g_t, if_pos h]
/-- what a condition leaves -/
def zm_RK (T : Nat → Nat) (n : Nat) (I0 I I2 : zI) (m0 l0 m l t : Nat) (ω : zp_OC) : Prop := match ω with
  | .inl x => ∃ m2, zm_PL I0 I2 m0 l0 x.1 m2 (l + x.2.length) ∧ zm_Fr I I2 m l ∧ (∀ I3, zm_Cl I2 I3 m m2 l (l + x.2.length) → zr_LsM I3 l x.2) ∧ m ≤ m2 ∧ m2 + t ≤ m + x.1 ∧ 3 * x.2.length + t ≤ x.1 ∧ x.1 ≤ 500 ∧ zt_go T n x.1
  | .inr y => zm_D T n I0 I2 m0 l0 y
theorem zm_cond {sw : Bool} {T : Nat → Nat} {n : Nat} {I0 : zI} {J J2 : zJ} {m0 l0 : Nat} {v1 v2 : Int32} (hY : zp_Y T n I0 J) : ∀ (f N t m l : Nat) (I : zI) (o : Bool), 501 - t ≤ f → f + 2 < N → zm_PL I0 I m0 l0 t m l → m0 ≤ m → l0 ≤ l → m ≤ 520 + t → 3 * l ≤ 600 + t → m + 520 ≤ zm_u I0 + t → 3 * l + 600 ≤ 3 * zm_v I0 + t → 1 ≤ t → t ≤ 500 → zt_go T n t → ∃ I2, zw_it (s_X11_tellRule_77 148 v1 v2 (zE_R sw) J2) N (1, zr_b o, I) = some I2 ∧ zm_RK T n I0 I I2 m0 l0 m l t (zp_Cn (zt_K T n) (zp_V T n) f t o)
  | 0, N, t, m, l, I, o, hf, hN, h, hm, hl, hmt, hlt, hmu, hlv, h1, ht, hg => by omega
  | f + 1, N, t, m, l, I, o, hf, hN, h, hm, hl, hmt, hlt, hmu, hlv, h1, ht, hg => by
    obtain ⟨N, rfl⟩ : ∃ N', N = N' + 2 := ⟨N - 2, by omega⟩
    obtain ⟨I1, q1, q2⟩ := zm_literal (sw := sw) (o := o) hY h hm hl hmt (by omega) hmu (by omega) h1 ht hg
    have lo := zp_Lt_ok (T := T) (n := n) ht hg
    have hd : s_X11_tellRule_77 148 v1 v2 (zE_R sw) J2 (1, zr_b o, I) = (f_X11_is 148 27 I1 (zE_R sw)).bind fun q22 => (if ¬ q22 = 0 then j_X11_tellRule_116_77 148 v1 v2 q22 I1 (zE_R sw) J2 else (f_X11_is 148 28 I1 (zE_R sw)).bind fun q27 => (if q27 = 0 then j_X11_tellRule_121_77 148 v1 v2 q22 0 I1 (zE_R sw) J2 else j_X11_tellRule_116_77 148 v1 v2 q22 I1 (zE_R sw) J2)) := by
      unfold s_X11_tellRule_77
      dsimp only
      rw [if_neg zE_10, zp_g148.1, zw_g_t, if_neg (fun r => r h.2.1), q1, Option.bind_some]
    have j0 : ∀ v, j_X11_tellRule_121_77 148 v1 v2 v 0 I1 (zE_R sw) J2 = some (.inl (0, v, I1)) := by
      intro v
      unfold j_X11_tellRule_121_77
      rw [if_pos rfl]
    cases hL : zp_Lt (zt_K T n) (zp_V T n) t with
    | inr y =>
      rw [hL] at q2
      have q2 : zm_D T n I0 I1 m0 l0 y := q2
      rw [zp_isF q2.ne.1, Option.bind_some, if_neg (fun r => r rfl), zp_isF q2.ne.1, Option.bind_some, if_pos rfl, j0] at hd
      refine ⟨I1, (zE_it1 (N + 1) hd).trans (zm_s77 N), ?_⟩
      rw [zp_Cn, hL]
      exact q2
    | inl r =>
      rw [hL] at q2 lo
      obtain ⟨⟨a1, a2, a3, a4, a5, a6⟩, fr, hLM⟩ := q2
      obtain ⟨u1, u2, u3, u4, u5, -⟩ := lo
      have hu : r.2.2.2.1.length + r.2.2.2.2.length + 1 ≤ r.1 - t := by split at u4 <;> omega
      obtain ⟨m1, em1⟩ : ∃ m1, m1 = m + r.2.2.2.1.length + r.2.2.2.2.length := ⟨_, rfl⟩
      rw [← em1] at a5 hLM
      have hY1 := a1.Y hY
      have T0 : zm_T T n I1 I1 r.1 (0, 0) := ⟨fun _ _ => rfl, a2, fun q => absurd rfl q, a3, fun _ _ _ _ => rfl⟩
      have i25 := zp_is (sw := sw) (kc := 25) (kv := 27) hY1 u2 u3 a2 a3 (by decide) rfl
      have i26 := zp_is (sw := sw) (kc := 26) (kv := 28) hY1 u2 u3 a2 a3 (by decide) rfl
      rw [i25, Option.bind_some, i26, Option.bind_some] at hd
      rw [zp_Cn, hL]
      dsimp only
      by_cases c : zt_K T n r.1 = 26 ∨ zt_K T n r.1 = 25
      · rw [if_pos c]
        have hd2 : s_X11_tellRule_77 148 v1 v2 (zE_R sw) J2 (1, zr_b o, I) = (f_X11_goesOn 148 I1 (zE_R sw)).bind fun q26 => (some (.inl (1, zr_b (decide (zt_K T n r.1 = 25)), q26))) := by
          rw [hd]
          unfold j_X11_tellRule_116_77 j_X11_tellRule_121_77
          rw [zp_g148.1]
          simp only [zw_g_t]
          by_cases c5 : zt_K T n r.1 = 25
          · rw [decide_eq_true c5]; rfl
          · have c6 : zt_K T n r.1 = 26 := by omega
            rw [decide_eq_false c5, decide_eq_true c6]; rfl
        by_cases c2 : r.1 < 500
        · rw [if_pos c2]
          obtain ⟨I2, o1, o2⟩ := zm_T_on (sw := sw) T0 c2
          rw [o1, Option.bind_some] at hd2
          have f2 := zm_T_Fr o2 m1 (l + 1)
          have P2 : zm_PL I0 I2 m0 l0 (r.1 + 1) m1 (l + 1) := ⟨a1.tr f2 (by omega) (by omega), o2.2.1, o2.2.2.2.1, (o2.2.2.2.2 12 (by decide) (by decide) (by decide)).trans a4, (o2.2.2.2.2 44 (by decide) (by decide) (by decide)).trans a5, (o2.2.2.2.2 37 (by decide) (by decide) (by decide)).trans a6⟩
          obtain ⟨I3, r1, r2⟩ := zm_cond (sw := sw) (J2 := J2) (v1 := v1) (v2 := v2) hY f (N + 1) (r.1 + 1) m1 (l + 1) I2 (decide (zt_K T n r.1 = 25)) (by omega) (by omega) P2 (by omega) (by omega) (by omega) (by omega) (by omega) (by omega) (by omega) (by omega) (zp_go u3 (by omega) (by omega))
          refine ⟨I3, (zE_it1 (N + 1) hd2).trans r1, ?_⟩
          cases hC : zp_Cn (zt_K T n) (zp_V T n) f (r.1 + 1) (decide (zt_K T n r.1 = 25)) with
          | inr y => rw [hC] at r2; exact r2
          | inl x =>
            rw [hC] at r2
            obtain ⟨m2, b1, b2, b3, b4, b5, b6, b7, b8⟩ := r2
            have el : l + 1 + x.2.length = l + ((o, r.2) :: x.2).length := by rw [List.length_cons]; omega
            have lc : ((o, r.2) :: x.2).length = x.2.length + 1 := List.length_cons
            rw [el] at b1 b3
            refine ⟨m2, b1, (fr.tr f2 (by omega) (by omega)).tr b2 (by omega) (by omega), fun I4 h4 => ⟨hLM I4 ⟨fun i i1 i2 => ⟨(h4.1 i i1 (by omega)).1.trans ((f2.tr b2 (Nat.le_refl _) (Nat.le_refl _)).2.2.1 i (Or.inl i2)).1, (h4.1 i i1 (by omega)).2.trans ((f2.tr b2 (Nat.le_refl _) (Nat.le_refl _)).2.2.1 i (Or.inl i2)).2⟩, fun a i x1 x2 i1 i2 => (h4.2 a i x1 x2 i1 (show i < l + ((o, r.2) :: x.2).length by omega)).trans ((f2.tr b2 (Nat.le_refl _) (Nat.le_refl _)).2.2.2 a i x1 x2 (Or.inl i2))⟩, b3 I4 ⟨fun i i1 i2 => h4.1 i (by omega) i2, fun a i x1 x2 i1 i2 => h4.2 a i x1 x2 (by omega) i2⟩⟩, by omega, ?_, ?_, b7, b8⟩
            · show m2 + t ≤ m + x.1
              omega
            · show 3 * ((o, r.2) :: x.2).length + t ≤ x.1
              omega
        · rw [if_neg c2]
          obtain ⟨I2, o1, o2⟩ := zm_T_end (sw := sw) hY1 T0 (by omega) u3
          rw [o1, Option.bind_some] at hd2
          have D2 := zm_D.base a1 (zm_T_D o2 (Or.inr rfl) u2 m0 l0) (Nat.le_refl _) (Nat.le_refl _)
          exact ⟨I2, (zE_it1 (N + 1) hd2).trans (zm_s77D N D2.ne.1), D2⟩
      · rw [if_neg c]
        have c5 : ¬ zt_K T n r.1 = 25 := fun q => c (Or.inr q)
        have c6 : ¬ zt_K T n r.1 = 26 := fun q => c (Or.inl q)
        rw [decide_eq_false c5, decide_eq_false c6, if_neg (fun q => q (show zr_b false = 0 from rfl)), if_pos (show zr_b false = 0 from rfl), j0] at hd
        refine ⟨I1, (zE_it1 (N + 1) hd).trans (zm_s77 N), m1, ⟨a1, a2, a3, a4, a5, a6⟩, fr, fun I4 h4 => ⟨hLM I4 h4, trivial⟩, by omega, ?_, ?_, u2, u3⟩
        · show m1 + t ≤ m + r.1
          omega
        · show 3 * 1 + t ≤ r.1
          omega
