/-! A deed, on both sides. -/
theorem ma_01 : ((1 : Int32) = 0 ∨ (1 : Int32) = 1) ↔ True := iff_true_intro (.inr rfl)
theorem ma_00 : ((0 : Int32) = 0 ∨ (0 : Int32) = 1) ↔ True := iff_true_intro (.inl rfl)
section
variable {h : pb_HP} {N : Nat}
/-- what the course's deeds leave -/
abbrev ma_cL : List Nat := [201, 202, 203, 204, 205, 206, 207, 208, 209]
abbrev ma_cF : List (Nat × Nat) := [(200, 4), (200, 5), (200, 6), (200, 7)]
abbrev ma_dL : List Nat := [228, 229, 230, 231, 232, 233]
abbrev ma_dF : List (Nat × Nat) := [(217, 26), (217, 27), (217, 28), (217, 29)]
theorem ma_D_o {S : ma_S} (D : ma_D h S) {g : pb_HP} {K : ma_K} (e17 : pb_I g 217 = pb_I h 217) (e23 : pb_I g 223 = pb_I h 223) (M : ma_M g K) (hK : ∀ m, K 1 m = S.1 1 m) : ma_D g (K, S.2) := by
  obtain ⟨_, c1, c2, c3, c4, K0, ⟨k, hk, ek, T⟩, FK⟩ := D
  refine ⟨M, ?_, ?_, ?_, ?_, K0, ⟨k, hk, ?_, ma_T_e T e23⟩, fun m => (hK m).trans (FK m)⟩
  · rw [e17]; exact c1
  · rw [e17]; exact c2
  · rw [e17]; exact c3
  · rw [e17]; exact c4
  · rw [e17]; exact ek
theorem ma_C_o {S : ma_S} (C : ma_C h S) {g : pb_HP} {K : ma_K} (e : pb_I g 200 = pb_I h 200) (V : ma_V g 201 K) : ma_C g (K, S.2) := by
  refine ⟨V, ?_, ?_, ?_, ?_⟩
  · rw [e]; exact C.2.1
  · rw [e]; exact C.2.2.1
  · rw [e]; exact C.2.2.2.1
  · rw [e]; exact C.2.2.2.2
theorem c_31 {S : ma_S} {d : ma_dd} {v : Nat → Int32} (H : ma_H h) (C : ma_C h S) (O : ma_SO S) (hd : ma_dr d v) (hN : 3000 < N) : (sp_act S d = none → f_31 N h 200 (v 0) (v 1) (v 2) (v 3) = some (0, h)) ∧ ∀ S2, sp_act S d = some S2 → ∃ g, f_31 N h 200 (v 0) (v 1) (v 2) (v 3) = some (1, g) ∧ ma_fr ma_cL ma_cF h g ∧ ma_C g S2 := by
  obtain ⟨K, y, gl, pi, ou⟩ := S
  obtain ⟨q, a, t, u⟩ := d
  obtain ⟨O1, O2, O3, O4, O5⟩ := id O
  obtain ⟨d0, d1, d2, d3, d4⟩ := hd
  obtain ⟨V, c1, c2, c3, c4⟩ := id C
  dsimp only at *
  have hme := O1.1
  have hch := O1.2.1
  have i0 := mi_200 H
  have i1 := mi_201 H
  unfold sp_act
  dsimp only
  rw [d0]
  by_cases q0 : q = 0
  · subst q0
    obtain ⟨d2a, d2b⟩ := d2 (by decide)
    obtain ⟨d3a, d3b⟩ := d3 (by decide)
    rw [d2a, d3a]
    have e3 := c_3 H V (nI a)
    rw [ma_at_nI (by omega) (by omega)] at e3
    have ba := O1.2.2.1 a
    by_cases ha : a < K 0 0
    · simp only [if_pos ha, if_true, reduceCtorEq, false_implies, true_and, Option.some.injEq]
      rintro S2 rfl
      refine ⟨pb_pI h 203 a (nI (K 2 a ||| 2 ^ t)), ?_, ma_fr_pI (ma_fr_r _ _ _) (.inl (by decide)) _, ma_C_o C (by rw [ma_I_pI, if_neg (by decide)]) (ma_V_p2 V a _)⟩
      simp only [f_31, f_31_40, f_31_52, f_32, nI_0, i10, i01, true_or, or_true, false_or, or_false, true_and, and_true, and_false, false_and, not_true_eq_false, not_false_eq_true, if_true, if_false, eq_self, if_pos i0, mr_200_0 H, Option.bind_some, if_pos i1, e3, ha, decide_true, mr_201_3 H, if_pos (mx_203 H (show a < 6 by omega)), nI_clamp (show a < 2 ^ 31 by omega), V.2.2.2.2.1 a (by omega), ma_shl (show t < 31 by omega), fa_or, ma_01]
    · simp only [if_neg ha, if_true, true_implies, reduceCtorEq, false_implies, implies_true, and_true]
      simp only [f_31, f_31_40, f_31_52, f_32, nI_0, i10, i01, true_or, or_true, false_or, or_false, true_and, and_true, and_false, false_and, not_true_eq_false, not_false_eq_true, if_true, if_false, eq_self, if_pos i0, mr_200_0 H, Option.bind_some, if_pos i1, e3, ha, decide_false, Bool.false_eq_true, ma_00]
  rw [if_neg q0]
  by_cases q1 : q = 1
  · subst q1
    obtain ⟨d2a, d2b⟩ := d2 (by decide)
    obtain ⟨d3a, d3b⟩ := d3 (by decide)
    rw [d2a, d3a]
    have e3 := c_3 H V (nI a)
    rw [ma_at_nI (by omega) (by omega)] at e3
    have ba := O1.2.2.1 a
    have k0 : (nI 1 = 0) = False := eq_false (by decide)
    have k1 : (nI 1 = 1) = True := eq_true rfl
    by_cases ha : a < K 0 0
    · simp only [if_pos ha, if_true, reduceCtorEq, false_implies, true_and, Option.some.injEq]
      rintro S2 rfl
      refine ⟨pb_pI h 203 a (nI (sp_cl (K 2 a) t)), ?_, ma_fr_pI (ma_fr_r _ _ _) (.inl (by decide)) _, ma_C_o C (by rw [ma_I_pI, if_neg (by decide)]) (ma_V_p2 V a _)⟩
      simp only [f_31, f_31_40, f_31_52, f_32, k0, k1, i10, i01, true_or, or_true, false_or, or_false, true_and, and_true, and_false, false_and, not_true_eq_false, not_false_eq_true, if_true, if_false, eq_self, if_pos i0, mr_200_0 H, Option.bind_some, if_pos i1, e3, ha, decide_true, mr_201_3 H, if_pos (mx_203 H (show a < 6 by omega)), nI_clamp (show a < 2 ^ 31 by omega), V.2.2.2.2.1 a (by omega), ma_shl (show t < 31 by omega), ma_clr ba.2.1 d3b, ma_01]
    · simp only [if_neg ha, if_true, true_implies, reduceCtorEq, false_implies, implies_true, and_true]
      simp only [f_31, f_31_40, f_31_52, f_32, k0, k1, i10, i01, true_or, or_true, false_or, or_false, true_and, and_true, and_false, false_and, not_true_eq_false, not_false_eq_true, if_true, if_false, eq_self, if_pos i0, mr_200_0 H, Option.bind_some, if_pos i1, e3, ha, decide_false, Bool.false_eq_true, ma_00]
  rw [if_neg q1]
  by_cases q2 : q = 2
  · subst q2
    obtain ⟨d2a, d2b⟩ := d2 (by decide)
    obtain ⟨d3a, d3b⟩ := d3 (by decide)
    rw [d2a, d3a]
    have e3 := c_4 H V (nI a)
    rw [ma_at_nI (by omega) (by omega)] at e3
    have ba := O1.2.2.1 a
    have k0 : (nI 2 = 0) = False := eq_false (by decide)
    have k1 : (nI 2 = 1) = False := eq_false (by decide)
    have k2 : (nI 2 = 2) = True := eq_true rfl
    by_cases ha : a < K 0 1
    · simp only [if_pos ha, if_true, reduceCtorEq, false_implies, true_and, Option.some.injEq]
      rintro S2 rfl
      refine ⟨pb_pI h 206 a (nI (K 5 a ||| 2 ^ t)), ?_, ma_fr_pI (ma_fr_r _ _ _) (.inl (by decide)) _, ma_C_o C (by rw [ma_I_pI, if_neg (by decide)]) (ma_V_p5 V a _)⟩
      simp only [f_31, f_33, k0, k1, k2, i10, i01, true_or, or_true, false_or, or_false, true_and, and_true, and_false, false_and, not_true_eq_false, not_false_eq_true, if_true, if_false, eq_self, if_pos i0, mr_200_0 H, Option.bind_some, if_pos i1, e3, ha, decide_true, mr_201_6 H, if_pos (mx_206 H (show a < 6 by omega)), nI_clamp (show a < 2 ^ 31 by omega), V.2.2.2.2.2.2.2.1 a (by omega), ma_shl (show t < 31 by omega), fa_or, ma_01]
    · simp only [if_neg ha, if_true, true_implies, reduceCtorEq, false_implies, implies_true, and_true]
      simp only [f_31, f_33, k0, k1, k2, i10, i01, true_or, or_true, false_or, or_false, true_and, and_true, and_false, false_and, not_true_eq_false, not_false_eq_true, if_true, if_false, eq_self, if_pos i0, mr_200_0 H, Option.bind_some, if_pos i1, e3, ha, decide_false, Bool.false_eq_true, ma_00]
  rw [if_neg q2]
  by_cases q3 : q = 3
  · subst q3
    obtain ⟨d2a, d2b⟩ := d2 (by decide)
    obtain ⟨d3a, d3b⟩ := d3 (by decide)
    obtain ⟨d4a, d4b⟩ := d4 rfl
    rw [d2a, d3a, d4a]
    have e3 := c_4 H V (nI a)
    rw [ma_at_nI (by omega) (by omega)] at e3
    have ba := O5 (6 * a + t)
    have k0 : (nI 3 = 0) = False := eq_false (by decide)
    have k1 : (nI 3 = 1) = False := eq_false (by decide)
    have k2 : (nI 3 = 2) = False := eq_false (by decide)
    have k3 : (nI 3 = 3) = True := eq_true rfl
    have k4 : (nI t < 0) = False := eq_false (nI_pos (by omega))
    have k5 : (nI t < 6) = True := eq_true ((lD6 (by omega)).mpr d3b)
    have k6 : nI a * 6 + nI t = nI (6 * a + t) := by rw [lJ6, nI_add]
    have k7 : (if nI (K 6 (6 * a + t) + u) < 9 then nI (K 6 (6 * a + t) + u) else 9) = nI (min 9 (K 6 (6 * a + t) + u)) := by
      by_cases z : K 6 (6 * a + t) + u < 9
      · rw [if_pos ((lD9 (by omega)).mpr z), Nat.min_eq_right (by omega)]
      · rw [if_neg ((not_congr (lD9 (by omega))).mpr z), Nat.min_eq_left (by omega)]; rfl
    by_cases ha : a < K 0 1
    · simp only [if_pos ha, if_true, reduceCtorEq, false_implies, true_and, Option.some.injEq]
      rintro S2 rfl
      refine ⟨pb_pI h 207 (6 * a + t) (nI (min 9 (K 6 (6 * a + t) + u))), ?_, ma_fr_pI (ma_fr_r _ _ _) (.inl (by decide)) _, ma_C_o C (by rw [ma_I_pI, if_neg (by decide)]) (ma_V_p6 V _ _)⟩
      simp only [f_31, f_34, k0, k1, k2, k3, k4, k5, k6, i10, i01, true_or, or_true, false_or, or_false, true_and, and_true, and_false, false_and, not_true_eq_false, not_false_eq_true, if_true, if_false, eq_self, if_pos i0, mr_200_0 H, Option.bind_some, if_pos i1, e3, ha, decide_true, mr_201_7 H, if_pos (mx_207 H (show 6 * a + t < 36 by omega)), nI_clamp (show 6 * a + t < 2 ^ 31 by omega), V.2.2.2.2.2.2.2.2 (6 * a + t) (by omega), nI_add, k7, ma_01]
    · simp only [if_neg ha, if_true, true_implies, reduceCtorEq, false_implies, implies_true, and_true]
      simp only [f_31, f_34, k0, k1, k2, k3, i10, i01, true_or, or_true, false_or, or_false, true_and, and_true, and_false, false_and, not_true_eq_false, not_false_eq_true, if_true, if_false, eq_self, if_pos i0, mr_200_0 H, Option.bind_some, if_pos i1, e3, ha, decide_false, Bool.false_eq_true, ma_00]
  rw [if_neg q3]
  by_cases q4 : q = 4
  · subst q4
    obtain ⟨d2a, d2b⟩ := d2 (by decide)
    rw [d2a]
    have e3 := c_4 H V (nI a)
    rw [ma_at_nI (by omega) (by omega)] at e3
    have k0 : (nI 4 = 0) = False := eq_false (by decide)
    have k1 : (nI 4 = 1) = False := eq_false (by decide)
    have k2 : (nI 4 = 2) = False := eq_false (by decide)
    have k3 : (nI 4 = 3) = False := eq_false (by decide)
    have k4 : (nI 4 = 4) = True := eq_true rfl
    have k5 : (nI gl = 6) = (gl = 6) := propext (lE6 (by omega))
    by_cases ha : a < K 0 1
    · by_cases hg : gl < 6
      · have e4 := c_12 H V O1 (O4 hg) ha
        have hg2 : ¬ gl = 6 := by omega
        by_cases hx : 0 < K 4 a ∧ K 4 a ≤ 10 * K 1 gl
        · simp only [if_pos (show a < K 0 1 ∧ gl < 6 ∧ 0 < K 4 a ∧ K 4 a ≤ 10 * K 1 gl from ⟨ha, hg, hx⟩), if_true, reduceCtorEq, false_implies, true_and, Option.some.injEq]
          rintro S2 rfl
          refine ⟨pb_pI (pb_pI h 205 a 0) 200 7 (nI (ou + 1)), ?_, ma_fr_pI (ma_fr_pI (ma_fr_r _ _ _) (.inl (by decide)) _) (.inr (by decide)) _, ma_V_o (show ma_V (pb_pI h 205 a 0) 201 _ from ma_V_p4 V a 0) (by decide) _ _, ?_, ?_, ?_, ?_⟩
          · rw [if_pos hx] at e4
            have x7 : pb_I (pb_pI h 205 a 0) 200 7 = nI ou := by rw [ma_Ik, if_neg (by decide)]; exact c4
            simp only [f_31, f_35, k0, k1, k2, k3, k4, k5, hg2, i10, i01, true_or, or_true, false_or, or_false, true_and, and_true, and_false, false_and, not_true_eq_false, not_false_eq_true, if_true, if_false, eq_self, if_pos i0, mr_200_0 H, Option.bind_some, if_pos i1, e3, ha, decide_true, c2, e4, mr_201_5 H, if_pos (mx_205 H (show a < 6 by omega)), nI_clamp (show a < 2 ^ 31 by omega), ma_01, x7, nI_1]
          · rw [ma_Ik, if_pos rfl, if_neg (by decide), ma_Ik, if_neg (by decide)]; exact c1
          · rw [ma_Ik, if_pos rfl, if_neg (by decide), ma_Ik, if_neg (by decide)]; exact c2
          · rw [ma_Ik, if_pos rfl, if_neg (by decide), ma_Ik, if_neg (by decide)]; exact c3
          · rw [ma_Ik, if_pos rfl, if_pos rfl]
        · simp only [if_neg (show ¬ (a < K 0 1 ∧ gl < 6 ∧ 0 < K 4 a ∧ K 4 a ≤ 10 * K 1 gl) from fun z => hx z.2.2), if_true, true_implies, reduceCtorEq, false_implies, implies_true, and_true]
          rw [if_neg hx] at e4
          simp only [f_31, f_35, k0, k1, k2, k3, k4, k5, hg2, i10, i01, true_or, or_true, false_or, or_false, true_and, and_true, and_false, false_and, not_true_eq_false, not_false_eq_true, if_true, if_false, eq_self, if_pos i0, mr_200_0 H, Option.bind_some, if_pos i1, e3, ha, decide_true, c2, e4, ma_00]
      · simp only [if_neg (show ¬ (a < K 0 1 ∧ gl < 6 ∧ 0 < K 4 a ∧ K 4 a ≤ 10 * K 1 gl) from fun z => hg z.2.1), if_true, true_implies, reduceCtorEq, false_implies, implies_true, and_true]
        have hg2 : (nI gl = 6) = True := eq_true ((lE6 (by omega)).mpr (by omega))
        simp only [f_31, f_35, k0, k1, k2, k3, k4, hg2, i10, i01, true_or, or_true, false_or, or_false, true_and, and_true, and_false, false_and, not_true_eq_false, not_false_eq_true, if_true, if_false, eq_self, if_pos i0, mr_200_0 H, Option.bind_some, if_pos i1, e3, ha, decide_true, c2, ma_00]
    · simp only [if_neg (show ¬ (a < K 0 1 ∧ gl < 6 ∧ 0 < K 4 a ∧ K 4 a ≤ 10 * K 1 gl) from fun z => ha z.1), if_true, true_implies, reduceCtorEq, false_implies, implies_true, and_true]
      simp only [f_31, f_35, k0, k1, k2, k3, k4, i10, i01, true_or, or_true, false_or, or_false, true_and, and_true, and_false, false_and, not_true_eq_false, not_false_eq_true, if_true, if_false, eq_self, if_pos i0, mr_200_0 H, Option.bind_some, if_pos i1, e3, ha, decide_false, Bool.false_eq_true, ma_00]
  rw [if_neg q4]
  by_cases q5 : q = 5
  · subst q5
    have k0 : (nI 5 = 0) = False := eq_false (by decide)
    have k1 : (nI 5 = 1) = False := eq_false (by decide)
    have k2 : (nI 5 = 2) = False := eq_false (by decide)
    have k3 : (nI 5 = 3) = False := eq_false (by decide)
    have k4 : (nI 5 = 4) = False := eq_false (by decide)
    have k5 : (nI 5 = 5) = True := eq_true rfl
    simp only [if_true, reduceCtorEq, false_implies, true_and, Option.some.injEq]
    rintro S2 rfl
    obtain ⟨g, a1, a2, a3, a4⟩ := c_76 H V O1 ma_pl208 (by omega) hN
    have H2 := ma_H_fr H a2
    have e77 : f_77 N g 208 63 = some (nI (sp_pk K (sp_to K) 63)) := by
      have := c_77 H2 ma_pl208 O1.1 a3 (fun c _ => sp_pp_le O1 c) (b := 63) (by decide) hN
      rw [sp_q_pk O1 (fun c m hc hm => sp_pp_to c m hc hm) 63] at this
      exact this
    have eo : pb_I g 200 = pb_I h 200 := ma_fr_o a2 (by decide) (by decide)
    refine ⟨pb_pI (pb_pI g 200 5 (nI (sp_pk K (sp_to K) 63))) 200 6 (nI (pi + 1)), ?_, ma_fr_pI (ma_fr_pI (ma_fr_w a2 (by decide) (by decide)) (.inr (by decide)) _) (.inr (by decide)) _, ma_V_o (ma_V_o (ma_V_fr V a2 (fun o x y => ⟨by simp; omega, by simp⟩)) (by decide) _ _) (by decide) _ _, ?_, ?_, ?_, ?_⟩
    · have x7 : pb_I (pb_pI g 200 5 (nI (sp_pk K (sp_to K) 63))) 200 6 = nI pi := by rw [ma_Ik, if_pos rfl, if_neg (by decide), eo]; exact c3
      simp only [f_31, k0, k1, k2, k3, k4, k5, i10, i01, true_or, or_true, false_or, or_false, true_and, and_true, and_false, false_and, not_true_eq_false, not_false_eq_true, if_true, if_false, eq_self, if_pos i0, mr_200_1 H, mr_200_0 H, Option.bind_some, if_pos (mi_208 H), a1, if_pos (mi_200 H2), mr_200_1 H2, if_pos (mi_208 H2), e77, x7, nI_1]
    · rw [ma_Ik, if_pos rfl, if_neg (by decide), ma_Ik, if_pos rfl, if_neg (by decide), eo]; exact c1
    · rw [ma_Ik, if_pos rfl, if_neg (by decide), ma_Ik, if_pos rfl, if_pos rfl]
    · rw [ma_Ik, if_pos rfl, if_pos rfl]
    · rw [ma_Ik, if_pos rfl, if_neg (by decide), ma_Ik, if_pos rfl, if_neg (by decide), eo]; exact c4
  rw [if_neg q5]
  have q6 : q = 6 := by omega
  subst q6
  have k0 : (nI 6 = 0) = False := eq_false (by decide)
  have k1 : (nI 6 = 1) = False := eq_false (by decide)
  have k2 : (nI 6 = 2) = False := eq_false (by decide)
  have k3 : (nI 6 = 3) = False := eq_false (by decide)
  have k4 : (nI 6 = 4) = False := eq_false (by decide)
  have k5 : (nI 6 = 5) = False := eq_false (by decide)
  by_cases hy : y < 99
  · simp only [if_pos hy, if_true, reduceCtorEq, false_implies, true_and, Option.some.injEq]
    rintro S2 rfl
    obtain ⟨g, a1, a2, a3⟩ := c_36 (N := N) H C O hN hy
    refine ⟨g, ?_, ma_fr_w a2 (by decide) (by decide), a3⟩
    simp only [f_31, k0, k1, k2, k3, k4, k5, i10, i01, true_or, or_true, false_or, or_false, true_and, and_true, and_false, false_and, not_true_eq_false, not_false_eq_true, if_true, if_false, eq_self, if_pos i0, a1, Option.bind_some, ma_01]
  · simp only [if_neg hy, if_true, true_implies, reduceCtorEq, false_implies, implies_true, and_true]
    have k6 : ¬ nI y < 99 := (not_congr (lD99 (by omega))).mpr hy
    simp only [f_31, f_36, k0, k1, k2, k3, k4, k5, i10, i01, true_or, or_true, false_or, or_false, true_and, and_true, and_false, false_and, not_true_eq_false, not_false_eq_true, if_true, if_false, eq_self, if_pos i0, c1, if_neg k6, Option.bind_some, ma_00]
end
section
variable {h : pb_HP} {N : Nat}
theorem m_220 {S : ma_S} {d : ma_dd} {v : Nat → Int32} (H : ma_H h) (D : ma_D h S) (O : ma_SO S) (hd : ma_dr d v) (hN : 3000 < N) : (sp_act S d = none → f_220 N h 217 (v 0) (v 1) (v 2) (v 3) = some (0, h)) ∧ ∀ S2, sp_act S d = some S2 → ∃ g, f_220 N h 217 (v 0) (v 1) (v 2) (v 3) = some (1, g) ∧ ma_fr ma_dL ma_dF h g ∧ ma_D g S2 := by
  obtain ⟨K, y, gl, pi, ou⟩ := S
  obtain ⟨q, a, t, u⟩ := d
  obtain ⟨O1, O2, O3, O4, O5⟩ := id O
  obtain ⟨d0, d1, d2, d3, d4⟩ := hd
  obtain ⟨hM, c1, c2, c3, c4, K0, F, FK⟩ := id D
  dsimp only at *
  have hme := O1.1
  have hch := O1.2.1
  have i0 := mi_217 H
  unfold sp_act
  dsimp only
  rw [d0]
  by_cases q0 : q = 0
  · subst q0
    obtain ⟨d2a, d2b⟩ := d2 (by decide)
    obtain ⟨d3a, d3b⟩ := d3 (by decide)
    rw [d2a, d3a]
    have e3 := m_200 H hM O1 (nI a)
    rw [ma_at_nI (by omega) (by omega)] at e3
    by_cases ha : a < K 0 0
    · simp only [if_pos ha, if_true, reduceCtorEq, false_implies, true_and, Option.some.injEq]
      rintro S2 rfl
      refine ⟨pb_pI h 228 a (nI (K 2 a ||| 2 ^ t)), ?_, ma_fr_pI (ma_fr_r _ _ _) (.inl (by decide)) _, ma_D_o D (by rw [ma_I_pI, if_neg (by decide)]) (by rw [ma_I_pI, if_neg (by decide)]) (ma_M_p2 hM a _) (fun m => sp_up_n (.inl (by decide)))⟩
      simp only [f_220, f_220_40, f_218, f_218_44, nI_0, i10, i01, true_or, or_true, false_or, or_false, true_and, and_true, and_false, false_and, not_true_eq_false, not_false_eq_true, if_true, if_false, eq_self, if_pos i0, Option.bind_some, e3, ha, decide_true, mr_217_30 H, if_pos (mx_228 H (show a < 6 by omega)), nI_clamp (show a < 2 ^ 31 by omega), hM.2.2.1 a (by omega), ma_shl (show t < 31 by omega), fa_or, ma_01]
    · simp only [if_neg ha, if_true, true_implies, reduceCtorEq, false_implies, implies_true, and_true]
      simp only [f_220, f_220_40, f_218, nI_0, i10, i01, true_or, or_true, false_or, or_false, true_and, and_true, and_false, false_and, not_true_eq_false, not_false_eq_true, if_true, if_false, eq_self, if_pos i0, Option.bind_some, e3, ha, decide_false, Bool.false_eq_true, ma_00]
  rw [if_neg q0]
  by_cases q1 : q = 1
  · subst q1
    obtain ⟨d2a, d2b⟩ := d2 (by decide)
    obtain ⟨d3a, d3b⟩ := d3 (by decide)
    rw [d2a, d3a]
    have e3 := m_200 H hM O1 (nI a)
    rw [ma_at_nI (by omega) (by omega)] at e3
    have ba := O1.2.2.1 a
    have k0 : (nI 1 = 0) = False := eq_false (by decide)
    have k1 : (nI 1 = 1) = True := eq_true rfl
    by_cases ha : a < K 0 0
    · simp only [if_pos ha, if_true, reduceCtorEq, false_implies, true_and, Option.some.injEq]
      rintro S2 rfl
      refine ⟨pb_pI h 228 a (nI (sp_cl (K 2 a) t)), ?_, ma_fr_pI (ma_fr_r _ _ _) (.inl (by decide)) _, ma_D_o D (by rw [ma_I_pI, if_neg (by decide)]) (by rw [ma_I_pI, if_neg (by decide)]) (ma_M_p2 hM a _) (fun m => sp_up_n (.inl (by decide)))⟩
      simp only [f_220, f_220_40, f_218, f_218_44, k0, k1, i10, i01, true_or, or_true, false_or, or_false, true_and, and_true, and_false, false_and, not_true_eq_false, not_false_eq_true, if_true, if_false, eq_self, if_pos i0, Option.bind_some, e3, ha, decide_true, mr_217_30 H, if_pos (mx_228 H (show a < 6 by omega)), nI_clamp (show a < 2 ^ 31 by omega), hM.2.2.1 a (by omega), ma_shl (show t < 31 by omega), ma_clr ba.2.1 d3b, ma_01]
    · simp only [if_neg ha, if_true, true_implies, reduceCtorEq, false_implies, implies_true, and_true]
      simp only [f_220, f_220_40, f_218, k0, k1, i10, i01, true_or, or_true, false_or, or_false, true_and, and_true, and_false, false_and, not_true_eq_false, not_false_eq_true, if_true, if_false, eq_self, if_pos i0, Option.bind_some, e3, ha, decide_false, Bool.false_eq_true, ma_00]
  rw [if_neg q1]
  by_cases q2 : q = 2
  · subst q2
    obtain ⟨d2a, d2b⟩ := d2 (by decide)
    obtain ⟨d3a, d3b⟩ := d3 (by decide)
    rw [d2a, d3a]
    have e3 := m_201 H hM O1 (nI a)
    rw [ma_at_nI (by omega) (by omega)] at e3
    have k0 : (nI 2 = 0) = False := eq_false (by decide)
    have k1 : (nI 2 = 1) = False := eq_false (by decide)
    have k2 : (nI 2 = 2) = True := eq_true rfl
    have k4 : (nI 2 = 4) = False := eq_false (by decide)
    by_cases ha : a < K 0 1
    · simp only [if_pos ha, if_true, reduceCtorEq, false_implies, true_and, Option.some.injEq]
      rintro S2 rfl
      refine ⟨pb_pI h 231 a (nI (K 5 a ||| 2 ^ t)), ?_, ma_fr_pI (ma_fr_r _ _ _) (.inl (by decide)) _, ma_D_o D (by rw [ma_I_pI, if_neg (by decide)]) (by rw [ma_I_pI, if_neg (by decide)]) (ma_M_p5 hM a _) (fun m => sp_up_n (.inl (by decide)))⟩
      simp only [f_220, f_220_48, f_219, k0, k1, k2, k4, i10, i01, true_or, or_true, false_or, or_false, true_and, and_true, and_false, false_and, not_true_eq_false, not_false_eq_true, if_true, if_false, eq_self, if_pos i0, Option.bind_some, e3, ha, decide_true, mr_217_33 H, if_pos (mx_231 H (show a < 6 by omega)), nI_clamp (show a < 2 ^ 31 by omega), hM.2.2.2.2.2.1 a (by omega), ma_shl (show t < 31 by omega), fa_or, ma_01]
    · simp only [if_neg ha, if_true, true_implies, reduceCtorEq, false_implies, implies_true, and_true]
      simp only [f_220, f_220_48, f_219, k0, k1, k2, i10, i01, true_or, or_true, false_or, or_false, true_and, and_true, and_false, false_and, not_true_eq_false, not_false_eq_true, if_true, if_false, eq_self, if_pos i0, Option.bind_some, e3, ha, decide_false, Bool.false_eq_true, ma_00]
  rw [if_neg q2]
  by_cases q3 : q = 3
  · subst q3
    obtain ⟨d2a, d2b⟩ := d2 (by decide)
    obtain ⟨d3a, d3b⟩ := d3 (by decide)
    obtain ⟨d4a, d4b⟩ := d4 rfl
    rw [d2a, d3a, d4a]
    have e3 := m_201 H hM O1 (nI a)
    rw [ma_at_nI (by omega) (by omega)] at e3
    have ba := O5 (6 * a + t)
    have k0 : (nI 3 = 0) = False := eq_false (by decide)
    have k1 : (nI 3 = 1) = False := eq_false (by decide)
    have k2 : (nI 3 = 2) = False := eq_false (by decide)
    have k3 : (nI 3 = 3) = True := eq_true rfl
    have k4 : (nI 3 = 4) = False := eq_false (by decide)
    have k6 : (6 : Int32) * nI a + nI t = nI (6 * a + t) := by rw [lI6, nI_add]
    have k7 : f_171 9 (nI (K 6 (6 * a + t) + u)) = some (nI (min 9 (K 6 (6 * a + t) + u))) := m_171 (a := 9) (by decide) (by omega)
    by_cases ha : a < K 0 1
    · simp only [if_pos ha, if_true, reduceCtorEq, false_implies, true_and, Option.some.injEq]
      rintro S2 rfl
      refine ⟨pb_pI h 232 (6 * a + t) (nI (min 9 (K 6 (6 * a + t) + u))), ?_, ma_fr_pI (ma_fr_r _ _ _) (.inl (by decide)) _, ma_D_o D (by rw [ma_I_pI, if_neg (by decide)]) (by rw [ma_I_pI, if_neg (by decide)]) (ma_M_p6 hM _ _) (fun m => sp_up_n (.inl (by decide)))⟩
      simp only [f_220, f_220_48, f_219, k0, k1, k2, k3, k4, k6, i10, i01, true_or, or_true, false_or, or_false, true_and, and_true, and_false, false_and, not_true_eq_false, not_false_eq_true, if_true, if_false, eq_self, if_pos i0, Option.bind_some, e3, ha, decide_true, mr_217_34 H, if_pos (mx_232 H (show 6 * a + t < 36 by omega)), nI_clamp (show 6 * a + t < 2 ^ 31 by omega), hM.2.2.2.2.2.2 (6 * a + t) (by omega), nI_add, k7, ma_01]
    · simp only [if_neg ha, if_true, true_implies, reduceCtorEq, false_implies, implies_true, and_true]
      simp only [f_220, f_220_48, f_219, k0, k1, k2, k3, i10, i01, true_or, or_true, false_or, or_false, true_and, and_true, and_false, false_and, not_true_eq_false, not_false_eq_true, if_true, if_false, eq_self, if_pos i0, Option.bind_some, e3, ha, decide_false, Bool.false_eq_true, ma_00]
  rw [if_neg q3]
  by_cases q4 : q = 4
  · subst q4
    obtain ⟨d2a, d2b⟩ := d2 (by decide)
    rw [d2a]
    have e3 := m_201 H hM O1 (nI a)
    rw [ma_at_nI (by omega) (by omega)] at e3
    have k0 : (nI 4 = 0) = False := eq_false (by decide)
    have k1 : (nI 4 = 1) = False := eq_false (by decide)
    have k2 : (nI 4 = 2) = False := eq_false (by decide)
    have k3 : (nI 4 = 3) = False := eq_false (by decide)
    have k4 : (nI 4 = 4) = True := eq_true rfl
    have ba := O1.2.2.1 a
    have x4 := hM.2.2.2.2.1 a d2b
    have k8 : (nI (K 4 a) = 0) = (K 4 a = 0) := propext (lE0 (by omega))
    by_cases ha : a < K 0 1
    · by_cases hz : K 4 a = 0
      · simp only [if_neg (show ¬ (a < K 0 1 ∧ gl < 6 ∧ 0 < K 4 a ∧ K 4 a ≤ 10 * K 1 gl) from fun z => by omega), if_true, true_implies, reduceCtorEq, false_implies, implies_true, and_true]
        simp only [f_220, f_220_48, f_219, f_216, k0, k1, k2, k3, k4, i10, i01, true_or, or_true, false_or, or_false, true_and, and_true, and_false, false_and, not_true_eq_false, not_false_eq_true, if_true, if_false, eq_self, if_pos i0, Option.bind_some, e3, ha, decide_true, mr_217_32 H, if_pos (mx_230 H d2b), nI_clamp (show a < 2 ^ 31 by omega), x4, (show (nI (K 4 a) = 0) = True from eq_true ((lE0 (by omega)).mpr hz)), ma_00]
      · by_cases hg : gl < 6
        · have k5 : (nI gl = 6) = False := eq_false ((not_congr (lE6 (by omega))).mpr (by omega))
          have bg := O1.2.2.1 gl
          have e4 : f_197 h 217 (2 + nI gl) = some (nI (K 1 gl)) := by
            rw [lG2, (m_of H F).1 gl hg, FK gl]
          have k9 : (nI (K 4 a) ≤ nI (10 * K 1 gl)) = (K 4 a ≤ 10 * K 1 gl) := propext (nI_leI (by omega) (by omega))
          by_cases hx : K 4 a ≤ 10 * K 1 gl
          · simp only [if_pos (show a < K 0 1 ∧ gl < 6 ∧ 0 < K 4 a ∧ K 4 a ≤ 10 * K 1 gl from ⟨ha, hg, by omega, hx⟩), if_true, reduceCtorEq, false_implies, true_and, Option.some.injEq]
            rintro S2 rfl
            refine ⟨pb_pI (pb_pI h 230 a 0) 217 29 (nI (ou + 1)), ?_, ma_fr_pI (ma_fr_pI (ma_fr_r _ _ _) (.inl (by decide)) _) (.inr (by decide)) _, ma_M_o (show ma_M (pb_pI h 230 a 0) _ from ma_M_p4 hM a 0) (.inl ⟨rfl, by decide, by decide⟩) _, ?_, ?_, ?_, ?_, K0, ?_, fun m => (sp_up_n (K := K) (i := 4) (k := a) (v := 0) (a := 1) (b := m) (.inl (by decide))).trans (FK m)⟩
            · have x7 : pb_I (pb_pI h 230 a 0) 217 29 = nI ou := by rw [ma_Ik, if_neg (by decide)]; exact c4
              simp only [f_220, f_220_48, f_219, f_216, k0, k1, k2, k3, k4, k5, i10, i01, true_or, or_true, false_or, or_false, true_and, and_true, and_false, false_and, not_true_eq_false, not_false_eq_true, if_true, if_false, eq_self, if_pos i0, Option.bind_some, e3, ha, decide_true, mr_217_32 H, if_pos (mx_230 H d2b), nI_clamp (show a < 2 ^ 31 by omega), x4, k8, hz, c2, e4, lI10, k9, hx, x7, nI_1, ma_01]
            · rw [ma_Ik, if_pos rfl, if_neg (by decide), ma_Ik, if_neg (by decide)]; exact c1
            · rw [ma_Ik, if_pos rfl, if_neg (by decide), ma_Ik, if_neg (by decide)]; exact c2
            · rw [ma_Ik, if_pos rfl, if_neg (by decide), ma_Ik, if_neg (by decide)]; exact c3
            · rw [ma_Ik, if_pos rfl, if_pos rfl]
            · obtain ⟨k, hk, ek, T⟩ := F
              refine ⟨k, hk, ?_, ma_T_e T ?_⟩
              · rw [ma_Ik, if_pos rfl, if_neg (by decide), ma_Ik, if_neg (by decide)]; exact ek
              · rw [ma_I_pI, if_neg (by decide), ma_I_pI, if_neg (by decide)]
          · simp only [if_neg (show ¬ (a < K 0 1 ∧ gl < 6 ∧ 0 < K 4 a ∧ K 4 a ≤ 10 * K 1 gl) from fun z => hx z.2.2.2), if_true, true_implies, reduceCtorEq, false_implies, implies_true, and_true]
            simp only [f_220, f_220_48, f_219, f_216, k0, k1, k2, k3, k4, k5, i10, i01, true_or, or_true, false_or, or_false, true_and, and_true, and_false, false_and, not_true_eq_false, not_false_eq_true, if_true, if_false, eq_self, if_pos i0, Option.bind_some, e3, ha, decide_true, mr_217_32 H, if_pos (mx_230 H d2b), nI_clamp (show a < 2 ^ 31 by omega), x4, k8, hz, c2, e4, lI10, k9, hx, ma_00]
        · simp only [if_neg (show ¬ (a < K 0 1 ∧ gl < 6 ∧ 0 < K 4 a ∧ K 4 a ≤ 10 * K 1 gl) from fun z => hg z.2.1), if_true, true_implies, reduceCtorEq, false_implies, implies_true, and_true]
          have k5 : (nI gl = 6) = True := eq_true ((lE6 (by omega)).mpr (by omega))
          simp only [f_220, f_220_48, f_219, f_216, k0, k1, k2, k3, k4, k5, i10, i01, true_or, or_true, false_or, or_false, true_and, and_true, and_false, false_and, not_true_eq_false, not_false_eq_true, if_true, if_false, eq_self, if_pos i0, Option.bind_some, e3, ha, decide_true, mr_217_32 H, if_pos (mx_230 H d2b), nI_clamp (show a < 2 ^ 31 by omega), x4, k8, hz, c2, ma_00]
    · simp only [if_neg (show ¬ (a < K 0 1 ∧ gl < 6 ∧ 0 < K 4 a ∧ K 4 a ≤ 10 * K 1 gl) from fun z => ha z.1), if_true, true_implies, reduceCtorEq, false_implies, implies_true, and_true]
      simp only [f_220, f_220_48, f_219, k0, k1, k2, k3, k4, i10, i01, true_or, or_true, false_or, or_false, true_and, and_true, and_false, false_and, not_true_eq_false, not_false_eq_true, if_true, if_false, eq_self, if_pos i0, Option.bind_some, e3, ha, decide_false, Bool.false_eq_true, ma_00]
  rw [if_neg q4]
  by_cases q5 : q = 5
  · subst q5
    have k0 : (nI 5 = 0) = False := eq_false (by decide)
    have k1 : (nI 5 = 1) = False := eq_false (by decide)
    have k2 : (nI 5 = 2) = False := eq_false (by decide)
    have k3 : (nI 5 = 3) = False := eq_false (by decide)
    have k4 : (nI 5 = 4) = False := eq_false (by decide)
    have k5 : (nI 5 = 5) = True := eq_true rfl
    simp only [if_true, reduceCtorEq, false_implies, true_and, Option.some.injEq]
    rintro S2 rfl
    obtain ⟨g, a1, a2⟩ := m_210 (N := N) H hM O1 hN
    have H2 := ma_H_fr H a2
    have eo : pb_I g 217 = pb_I h 217 := ma_fr_o a2 (by decide) (by decide)
    refine ⟨pb_pI (pb_pI g 217 27 (nI (sp_pk K (sp_to K) 63))) 217 28 (nI (pi + 1)), ?_, ma_fr_pI (ma_fr_pI (ma_fr_w a2 (by decide) (by decide)) (.inr (by decide)) _) (.inr (by decide)) _, ma_M_o (ma_M_o (ma_M_fr hM a2 (by decide) (by decide)) (.inl ⟨rfl, by decide, by decide⟩) _) (.inl ⟨rfl, by decide, by decide⟩) _, ?_, ?_, ?_, ?_, K0, ?_, FK⟩
    · have x7 : pb_I (pb_pI g 217 27 (nI (sp_pk K (sp_to K) 63))) 217 28 = nI pi := by rw [ma_Ik, if_pos rfl, if_neg (by decide), eo]; exact c3
      simp only [f_220, k0, k1, k2, k3, k4, k5, i10, i01, true_or, or_true, false_or, or_false, true_and, and_true, and_false, false_and, not_true_eq_false, not_false_eq_true, if_true, if_false, eq_self, if_pos i0, Option.bind_some, a1, if_pos (mi_217 H2), x7, nI_1]
    · rw [ma_Ik, if_pos rfl, if_neg (by decide), ma_Ik, if_pos rfl, if_neg (by decide), eo]; exact c1
    · rw [ma_Ik, if_pos rfl, if_neg (by decide), ma_Ik, if_pos rfl, if_pos rfl]
    · rw [ma_Ik, if_pos rfl, if_pos rfl]
    · rw [ma_Ik, if_pos rfl, if_neg (by decide), ma_Ik, if_pos rfl, if_neg (by decide), eo]; exact c4
    · obtain ⟨k, hk, ek, T⟩ := F
      refine ⟨k, hk, ?_, ma_T_e T ?_⟩
      · rw [ma_Ik, if_pos rfl, if_neg (by decide), ma_Ik, if_pos rfl, if_neg (by decide), eo]; exact ek
      · rw [ma_I_pI, if_neg (by decide), ma_I_pI, if_neg (by decide)]; exact ma_fr_o a2 (by decide) (by decide)
  rw [if_neg q5]
  have q6 : q = 6 := by omega
  subst q6
  have k0 : (nI 6 = 0) = False := eq_false (by decide)
  have k1 : (nI 6 = 1) = False := eq_false (by decide)
  have k2 : (nI 6 = 2) = False := eq_false (by decide)
  have k3 : (nI 6 = 3) = False := eq_false (by decide)
  have k4 : (nI 6 = 4) = False := eq_false (by decide)
  have k5 : (nI 6 = 5) = False := eq_false (by decide)
  by_cases hy : y < 99
  · simp only [if_pos hy, if_true, reduceCtorEq, false_implies, true_and, Option.some.injEq]
    rintro S2 rfl
    obtain ⟨g, a1, a2, a3⟩ := m_217 (N := N) H D O hN hy
    refine ⟨g, ?_, ma_fr_w a2 (by decide) (by decide), a3⟩
    simp only [f_220, k0, k1, k2, k3, k4, k5, i10, i01, true_or, or_true, false_or, or_false, true_and, and_true, and_false, false_and, not_true_eq_false, not_false_eq_true, if_true, if_false, eq_self, if_pos i0, a1, Option.bind_some, ma_01]
  · simp only [if_neg hy, if_true, true_implies, reduceCtorEq, false_implies, implies_true, and_true]
    have k6 : (nI y = 99) = True := eq_true ((lE99 (by omega)).mpr (by omega))
    simp only [f_220, f_217, k0, k1, k2, k3, k4, k5, k6, i10, i01, true_or, or_true, false_or, or_false, true_and, and_true, and_false, false_and, not_true_eq_false, not_false_eq_true, if_true, if_false, eq_self, if_pos i0, c1, Option.bind_some, ma_00]
end
