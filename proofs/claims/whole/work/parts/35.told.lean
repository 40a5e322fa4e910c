/-! Queries: fault, count, county, deed, fact. -/
theorem m_168z (x : Int32) {n : Nat} {y : Int32} (hy : y = nI n) (hn : n < 2 ^ 30) : f_168 x 0 y = some (if ma_at x (n + 1) then 1 else 0) := by
  subst hy
  have := m_168 x (n := n + 1) (by omega)
  rw [nI_pred] at this
  exact this
section
variable {h : pb_HP} {N : Nat}
theorem q_fault (I : ma_INV h) (x : Int32) : ma_Q0 h (f_127 h 0 x) (fun g => f_196 g 217 x) := by
  obtain ⟨H, ⟨X, GX, C, M⟩, _⟩ := I
  have hq : ma_q h (pb_pI h 217 0 0) := ma_q_pI (ma_q_r h) (by decide) 0 0
  by_cases q0 : x = 0
  · subst q0
    refine ⟨nI X.2.2.2.2.2.2.1, _, ?_, ?_, hq⟩
    · simp only [f_127, if_pos (mi_0 H), mr_0_0 H, Option.bind_some, if_pos (mi_1 H), C.2.2.2.2.2.2.1, i10, i01, true_or, or_true, false_or, or_false, true_and, and_true, and_false, false_and, not_true_eq_false, not_false_eq_true, if_true, if_false, eq_self]
    · simp only [f_196, if_pos (mi_217 H), mr_217_3 H, Option.bind_some, i10, i01, true_or, or_true, false_or, or_false, true_and, and_true, and_false, false_and, not_true_eq_false, not_false_eq_true, if_true, if_false, eq_self]
      have x0 : pb_ar h 220 12 0 := mx_220 H (j := 0) (by decide)
      rw [if_pos x0, ma_Ik]
      exact congrArg (fun v => some (v, _)) M.2.2.2.2.2.2.1
  · by_cases q1 : x = 1
    · subst q1
      refine ⟨mI X.2.2.2.2.2.2.2, _, ?_, ?_, hq⟩
      · simp only [f_127, if_pos (mi_0 H), mr_0_0 H, Option.bind_some, if_pos (mi_1 H), C.2.2.2.2.2.2.2, i10, i01, true_or, or_true, false_or, or_false, true_and, and_true, and_false, false_and, not_true_eq_false, not_false_eq_true, if_true, if_false, eq_self]
      · simp only [f_196, if_pos (mi_217 H), mr_217_4 H, Option.bind_some, i10, i01, true_or, or_true, false_or, or_false, true_and, and_true, and_false, false_and, not_true_eq_false, not_false_eq_true, if_true, if_false, eq_self]
        have x0 : pb_ar h 221 12 0 := mx_221 H (j := 0) (by decide)
        rw [if_pos x0, ma_Ik]
        exact congrArg (fun v => some (v, _)) M.2.2.2.2.2.2.2
    · refine ⟨-1, _, ?_, ?_, hq⟩
      · simp only [f_127, q0, q1, i10, i01, true_or, or_true, false_or, or_false, true_and, and_true, and_false, false_and, not_true_eq_false, not_false_eq_true, if_true, if_false, eq_self]
      · simp only [f_196, if_pos (mi_217 H), q0, q1, i10, i01, true_or, or_true, false_or, or_false, true_and, and_true, and_false, false_and, not_true_eq_false, not_false_eq_true, if_true, if_false, eq_self]
theorem q_count (I : ma_INV h) (x : Int32) : ma_Q0 h (f_161 h 0 x) (fun g => f_302 g 217 x) := by
  obtain ⟨H, ⟨X, GX, C, M⟩, _⟩ := I
  have hq : ma_q h (pb_pI h 217 0 0) := ma_q_pI (ma_q_r h) (by decide) 0 0
  have z := m_168z x (n := 2) (y := 2) rfl (by decide)
  cases qm : ma_at x (2 + 1)
  · rw [qm] at z
    refine ⟨-2, _, ?_, by simp only [f_302, if_pos (mi_217 H), z, Option.bind_some, i10, i01, true_or, or_true, false_or, or_false, true_and, and_true, and_false, false_and, not_true_eq_false, not_false_eq_true, if_true, if_false, eq_self, ma_b0, Bool.false_eq_true, Bool.true_eq_false, reduceCtorEq], hq⟩
    rcases ma_at_no qm with q | q
    · simp only [f_161, if_pos q]
    · by_cases q2 : x < 0
      · simp only [f_161, if_pos q2]
      · have : ¬ x < 3 := by rw [Int32.not_lt]; exact q
        simp only [f_161, if_neg q2, if_neg this]
  · obtain ⟨s, hs, rfl⟩ := ma_at_ex (by decide) qm
    rw [qm] at z
    refine ⟨nI (X.2.2.2.1 s), _, ?_, ?_, hq⟩
    · simp (disch := first | exact mi_0 H | exact mi_1 H | exact mx_39 H (by omega) | omega) only [f_161, nI_1, nI_add, pk_mul, pk_sub, nI_leI, nI_ltI, nI_eq, nI_clamp, Option.bind_some, ma_b0, ma_p0, if_true, if_false, mE, mF, mI_lt, mI_le, mI_eq, mI_s, nm_le, nm_lt, mn_le, mn_lt, nm_eq, mn_eq, if_pos, if_neg, ma_Ik, ma_R_pI, ma_R_pW, ma_I_pW, ma_1_pI, ma_1_pW, ma_bit, ma_has, ma_shl, fa_or, fa_and, lA0, lB0, lC0, lD0, lE0, lF0, lG0, lH0, lA3, lB3, lC3, lD3, lE3, lF3, lG3, lH3, lK3, lI3, lJ3, lL3, mr_0_0 H, mr_1_3 H, C.2.2.2.1]
    · have e := M.2.2.2.1 s (by omega)
      rw [show 3 * 0 + s = s by omega] at e
      simp (disch := first | exact mi_217 H | exact mx_222 H (by omega) | omega) only [f_302, z, nI_1, nI_add, pk_mul, pk_sub, nI_leI, nI_ltI, nI_eq, nI_clamp, Option.bind_some, ma_b0, ma_p0, if_true, if_false, mE, mF, mI_lt, mI_le, mI_eq, mI_s, nm_le, nm_lt, mn_le, mn_lt, nm_eq, mn_eq, if_pos, if_neg, ma_Ik, ma_R_pI, ma_R_pW, ma_I_pW, ma_1_pI, ma_1_pW, ma_bit, ma_has, ma_shl, fa_or, fa_and, mr_217_5 H, e, i10, i01, true_or, or_true, false_or, or_false, true_and, and_true, and_false, false_and, not_true_eq_false, not_false_eq_true, if_true, if_false, eq_self]
end
theorem ma_Ly_e {h g : pb_HP} {o b w : Nat} {Y : ma_Y} (L : ma_Ly h o b w Y) (e : pb_I g o = pb_I h o) : ma_Ly g o b w Y := by
  unfold ma_Ly; rw [e]; exact L
theorem ma_lt18 : ma_lt 18 40 := by unfold ma_lt; decide
section
variable {h : pb_HP} {N l cap nb : Nat} {Y : ma_Y}
theorem wl_is (H : ma_H h) (L : ma_L h l cap nb Y) : pb_is h l 4 := ma_is H.1 (by have := L.1.1; omega) L.1.2.2.1
theorem wl_x1 (H : ma_H h) (L : ma_lt l cap) (hc : cap ≤ 40) {j : Nat} (hj : j < cap) : pb_ar h (l + 1) 12 (nI j) := ma_ar H.1 (by have := L.1; omega) L.2.2.2.1 hj (by omega)
theorem wl_x2 (H : ma_H h) (L : ma_lt l cap) (hc : cap ≤ 40) {j : Nat} (hj : j < cap) : pb_ar h (l + 2) 12 (nI j) := ma_ar H.1 (by have := L.1; omega) L.2.2.2.2.1 hj (by omega)
theorem wl_x3 (H : ma_H h) (L : ma_lt l cap) (hc : cap ≤ 40) {j : Nat} (hj : j < cap) : pb_ar h (l + 3) 12 (nI j) := ma_ar H.1 (by have := L.1; omega) L.2.2.2.2.2.1 hj (by omega)
theorem wl_x4 (H : ma_H h) (L : ma_lt l cap) (hc : cap ≤ 40) {j : Nat} (hj : j < cap) : pb_ar h (l + 4) 12 (nI j) := ma_ar H.1 (by have := L.1; omega) L.2.2.2.2.2.2.1 hj (by omega)
theorem wl_r (H : ma_H h) (L : ma_lt l cap) {k o : Nat} (e : ma_RT l k = some o) : pb_R h l k = some o := by rw [H.2 l k (fun q => L.2.1 q.1)]; exact e
theorem wl_r1 (H : ma_H h) (L : ma_lt l cap) : pb_R h l 1 = some (l + 1) := wl_r H L L.2.2.2.2.2.2.2.1
theorem wl_r2 (H : ma_H h) (L : ma_lt l cap) : pb_R h l 2 = some (l + 2) := wl_r H L L.2.2.2.2.2.2.2.2.1
theorem wl_r3 (H : ma_H h) (L : ma_lt l cap) : pb_R h l 3 = some (l + 3) := wl_r H L L.2.2.2.2.2.2.2.2.2.1
theorem wl_r4 (H : ma_H h) (L : ma_lt l cap) : pb_R h l 4 = some (l + 4) := wl_r H L L.2.2.2.2.2.2.2.2.2.2
theorem c_74a (H : ma_H h) (L : ma_L h l cap nb Y) : f_74 h l (-1) 0 = some (nI Y.1) := by
  simp only [f_74, if_pos (wl_is H L), L.2.1, i10, i01, true_or, or_true, false_or, or_false, true_and, and_true, and_false, false_and, not_true_eq_false, not_false_eq_true, if_true, if_false, eq_self]
theorem c_74b (H : ma_H h) (L : ma_L h l cap nb Y) (hc : cap ≤ 40) (hY : Y.1 ≤ cap) (hb : nb ≤ 3) {k w : Int32} (h1 : ¬ (k = -1 ∧ w = 0)) (h2 : ma_at k Y.1 = false ∨ ma_at w (nb + 1) = false) : f_74 h l k w = some (-2) := by
  have e : f_74_14 h l k w = some (-2) := by
    unfold f_74_14
    by_cases q : k < 0
    · rw [if_pos q]
    · rw [if_neg q, if_pos (wl_is H L), L.2.1]
      by_cases q2 : nI Y.1 ≤ k
      · rw [if_pos q2]
      · rw [if_neg q2, L.2.2.1]
        have hk : ma_at k Y.1 = true := by
          unfold ma_at
          rw [Int32.not_lt] at q
          rw [Int32.not_le] at q2
          simp [q, q2]
        have hw : ma_at w (nb + 1) = false := by
          rcases h2 with z | z
          · rw [hk] at z; cases z
          · exact z
        by_cases q3 : w ≤ nI nb
        · rw [if_pos q3]
          have hw0 : w < 0 := by
            rcases ma_at_no hw with z | z
            · exact z
            · exfalso
              rw [Int32.le_iff_toInt_le, nI_toInt (by omega)] at q3 z
              omega
          have w0 : ¬ w = 0 := fun z => by rw [z] at hw0; exact absurd hw0 (by decide)
          have w1 : ¬ w = 1 := fun z => by rw [z] at hw0; exact absurd hw0 (by decide)
          have w2 : ¬ w = 2 := fun z => by rw [z] at hw0; exact absurd hw0 (by decide)
          have w3 : ¬ w = 3 := fun z => by rw [z] at hw0; exact absurd hw0 (by decide)
          rw [if_neg w0, if_neg w1, if_neg w2, if_neg w3]
        · rw [if_neg q3]
  unfold f_74
  by_cases q : k = -1
  · by_cases q2 : w = 0
    · exact absurd ⟨q, q2⟩ h1
    · rw [if_neg (fun z => z q), if_pos q2]; exact e
  · rw [if_pos q]; exact e
theorem c_74c (H : ma_H h) (L : ma_L h l cap nb Y) (hc : cap ≤ 40) (hY : Y.1 ≤ cap) (hb : nb ≤ 3) (hb2 : 2 ≤ nb) {j i : Nat} (hj : j < Y.1) (hi : i ≤ nb) : f_74 h l (nI j) (nI i) = some (Y.2 j i) := by
  have Lc := L.1
  have li := wl_is H L
  have e := L.2.2.2 j hj
  have : i = 0 ∨ i = 1 ∨ i = 2 ∨ i = 3 := by omega
  rcases this with q | q | q | q <;> subst q
  · simp (disch := first | exact li | exact wl_x1 H Lc hc (by omega) | omega) only [f_74, f_74_14, nI_1, nI_add, pk_mul, pk_sub, nI_leI, nI_ltI, nI_eq, nI_clamp, Option.bind_some, ma_b0, ma_p0, if_true, if_false, mE, mF, mI_lt, mI_le, mI_eq, mI_s, nm_le, nm_lt, mn_le, mn_lt, nm_eq, mn_eq, if_pos, if_neg, ma_Ik, ma_R_pI, ma_R_pW, ma_I_pW, ma_1_pI, ma_1_pW, ma_bit, ma_has, ma_shl, fa_or, fa_and, lA0, lB0, lC0, lD0, lE0, lF0, lG0, lH0, lA1, lB1, lC1, lD1, lE1, lF1, lG1, lH1, lK1, lA2, lB2, lC2, lD2, lE2, lF2, lG2, lH2, lK2, lI2, lJ2, lL2, lA3, lB3, lC3, lD3, lE3, lF3, lG3, lH3, lK3, lI3, lJ3, lL3, L.2.1, L.2.2.1, wl_r1 H Lc, e.1, i10, i01, true_or, or_true, false_or, or_false, true_and, and_true, and_false, false_and, not_true_eq_false, not_false_eq_true, if_true, if_false, eq_self]
  · simp (disch := first | exact li | exact wl_x2 H Lc hc (by omega) | omega) only [f_74, f_74_14, nI_1, nI_add, pk_mul, pk_sub, nI_leI, nI_ltI, nI_eq, nI_clamp, Option.bind_some, ma_b0, ma_p0, if_true, if_false, mE, mF, mI_lt, mI_le, mI_eq, mI_s, nm_le, nm_lt, mn_le, mn_lt, nm_eq, mn_eq, if_pos, if_neg, ma_Ik, ma_R_pI, ma_R_pW, ma_I_pW, ma_1_pI, ma_1_pW, ma_bit, ma_has, ma_shl, fa_or, fa_and, lA0, lB0, lC0, lD0, lE0, lF0, lG0, lH0, lA1, lB1, lC1, lD1, lE1, lF1, lG1, lH1, lK1, lA2, lB2, lC2, lD2, lE2, lF2, lG2, lH2, lK2, lI2, lJ2, lL2, lA3, lB3, lC3, lD3, lE3, lF3, lG3, lH3, lK3, lI3, lJ3, lL3, L.2.1, L.2.2.1, wl_r2 H Lc, e.2.1, i10, i01, true_or, or_true, false_or, or_false, true_and, and_true, and_false, false_and, not_true_eq_false, not_false_eq_true, if_true, if_false, eq_self]
  · simp (disch := first | exact li | exact wl_x3 H Lc hc (by omega) | omega) only [f_74, f_74_14, nI_1, nI_add, pk_mul, pk_sub, nI_leI, nI_ltI, nI_eq, nI_clamp, Option.bind_some, ma_b0, ma_p0, if_true, if_false, mE, mF, mI_lt, mI_le, mI_eq, mI_s, nm_le, nm_lt, mn_le, mn_lt, nm_eq, mn_eq, if_pos, if_neg, ma_Ik, ma_R_pI, ma_R_pW, ma_I_pW, ma_1_pI, ma_1_pW, ma_bit, ma_has, ma_shl, fa_or, fa_and, lA0, lB0, lC0, lD0, lE0, lF0, lG0, lH0, lA1, lB1, lC1, lD1, lE1, lF1, lG1, lH1, lK1, lA2, lB2, lC2, lD2, lE2, lF2, lG2, lH2, lK2, lI2, lJ2, lL2, lA3, lB3, lC3, lD3, lE3, lF3, lG3, lH3, lK3, lI3, lJ3, lL3, L.2.1, L.2.2.1, wl_r3 H Lc, e.2.2.1, i10, i01, true_or, or_true, false_or, or_false, true_and, and_true, and_false, false_and, not_true_eq_false, not_false_eq_true, if_true, if_false, eq_self]
  · have e3 := e.2.2.2 (by omega)
    simp (disch := first | exact li | exact wl_x4 H Lc hc (by omega) | omega) only [f_74, f_74_14, nI_1, nI_add, pk_mul, pk_sub, nI_leI, nI_ltI, nI_eq, nI_clamp, Option.bind_some, ma_b0, ma_p0, if_true, if_false, mE, mF, mI_lt, mI_le, mI_eq, mI_s, nm_le, nm_lt, mn_le, mn_lt, nm_eq, mn_eq, if_pos, if_neg, ma_Ik, ma_R_pI, ma_R_pW, ma_I_pW, ma_1_pI, ma_1_pW, ma_bit, ma_has, ma_shl, fa_or, fa_and, lA0, lB0, lC0, lD0, lE0, lF0, lG0, lH0, lA1, lB1, lC1, lD1, lE1, lF1, lG1, lH1, lK1, lA2, lB2, lC2, lD2, lE2, lF2, lG2, lH2, lK2, lI2, lJ2, lL2, lA3, lB3, lC3, lD3, lE3, lF3, lG3, lH3, lK3, lI3, lJ3, lL3, L.2.1, L.2.2.1, wl_r4 H Lc, e3, i10, i01, true_or, or_true, false_or, or_false, true_and, and_true, and_false, false_and, not_true_eq_false, not_false_eq_true, if_true, if_false, eq_self]
end
theorem lyI (j : Nat) : (161 : Int32) * nI j = nI (161 * j) := pk_mul 161 j
section
variable {h : pb_HP} {N : Nat}
theorem ma_Wy (I : ma_INV h) (x : Int32) : (f_106 h 1 x = some none ∧ ∀ g, ma_q h g → f_214 g 217 x = some (0, pb_pI g 217 36 x)) ∨ ∃ k Y, k < 2 ∧ x = nI k ∧ f_106 h 1 x = some (some (18 + 5 * k)) ∧ ma_L h (18 + 5 * k) 40 3 Y ∧ Y.1 ≤ 40 ∧ (∀ j, j < Y.1 → ma_gd (Y.2 j)) ∧ ∀ g, ma_q h g → f_214 g 217 x = some (1, pb_pI g 217 36 x) ∧ ma_Ly g 224 (161 * k) 4 Y := by
  obtain ⟨H, ⟨X, GX, C, M⟩, _⟩ := I
  have hn := GX.2.2.2.1 1 (by decide)
  have z : f_103 h 1 1 x = _ := c_103 H GX C (s := 1) (by decide) x
  have zm : ∀ g, ma_q h g → f_214 g 217 x = some (if ma_at x (X.2.2.2.1 1) then 1 else 0, pb_pI g 217 36 x) := by
    intro g qg
    have H2 := ma_H_q H qg
    have e := M.2.2.2.1 1 (by decide)
    have z2 : f_175 (pb_pI g 217 36 x) 217 1 x = _ := m_175 (h := pb_pI g 217 36 x) H2 (s := 1) (by omega) (show X.2.2.2.1 1 < 2 ^ 31 by omega) (by rw [ma_Ik, if_neg (by decide)]; exact (congrFun (qg.2.2 222 (by decide)) 1).trans e) x
    unfold f_214
    rw [if_pos (mi_217 H2), z2, Option.bind_some, if_pos (by cases ma_at x (X.2.2.2.1 1) <;> simp)]
  cases q : ma_at x (X.2.2.2.1 1) with
  | false =>
    left
    rw [q] at z
    refine ⟨?_, fun g qg => ?_⟩
    · unfold f_106
      rw [if_pos (mi_1 H), z]
      rfl
    · rw [zm g qg, q]; rfl
  | true =>
    right
    obtain ⟨k, hk, rfl⟩ := ma_at_ex (by omega) q
    have hk2 : k < 2 := by omega
    rw [q] at z
    refine ⟨k, X.2.1 k, hk2, rfl, ?_, C.2.1 k hk2, (GX.2.1 k hk2).1, (GX.2.1 k hk2).2, fun g qg => ⟨by rw [zm g qg, q]; rfl, ?_⟩⟩
    · have e0 : k = 0 ∨ k = 1 := by omega
      unfold f_106
      rw [if_pos (mi_1 H), z]
      simp only [Option.bind_some, mr_1_1 H]
      rw [if_neg (by decide), if_pos (mx_17 H hk2), nI_clamp (by omega)]
      rcases e0 with e0 | e0
      · subst e0; rw [mr_17_0 H]; rfl
      · subst e0; rw [mr_17_1 H]; rfl
    · have Ly := M.2.1 k hk2
      rw [show 2 * 0 + k = k by omega] at Ly
      unfold ma_Ly at Ly ⊢
      rw [qg.2.2 224 (by decide)]
      exact Ly
theorem m_szy {k : Nat} {Y : ma_Y} (H : ma_H h) (hk : k < 2) (e : pb_I h 217 36 = nI k) (Ly : ma_Ly h 224 (161 * k) 4 Y) : f_212 h 217 = some (nI Y.1) := by
  simp (disch := first | exact mi_217 H | exact mx_224 H (by omega) | omega) only [f_212, mr_217_7 H, e, Ly.1, nI_1, nI_add, pk_mul, pk_sub, nI_leI, nI_ltI, nI_eq, nI_clamp, Option.bind_some, ma_b0, ma_p0, if_true, if_false, mE, mF, mI_lt, mI_le, mI_eq, mI_s, nm_le, nm_lt, mn_le, mn_lt, nm_eq, mn_eq, if_pos, if_neg, ma_Ik, ma_R_pI, ma_R_pW, ma_I_pW, ma_1_pI, ma_1_pW, ma_bit, ma_has, ma_shl, fa_or, fa_and, lyI]
theorem m_ofy {k j i : Nat} {Y : ma_Y} (H : ma_H h) (hk : k < 2) (e : pb_I h 217 36 = nI k) (Ly : ma_Ly h 224 (161 * k) 4 Y) (hY : Y.1 ≤ 40) (hj : j < Y.1) (hi : i < 4) : f_213 h 217 (nI j) (nI i) = some (Y.2 j i) := by
  have e2 := Ly.2 j i hj hi
  simp (disch := first | exact mi_217 H | exact mx_224 H (by omega) | omega) only [f_213, mr_217_7 H, e, nI_1, nI_add, pk_mul, pk_sub, nI_leI, nI_ltI, nI_eq, nI_clamp, Option.bind_some, ma_b0, ma_p0, if_true, if_false, mE, mF, mI_lt, mI_le, mI_eq, mI_s, nm_le, nm_lt, mn_le, mn_lt, nm_eq, mn_eq, if_pos, if_neg, ma_Ik, ma_R_pI, ma_R_pW, ma_I_pW, ma_1_pI, ma_1_pW, ma_bit, ma_has, ma_shl, fa_or, fa_and, lA1, lB1, lC1, lD1, lE1, lF1, lG1, lH1, lK1, lA4, lB4, lC4, lD4, lE4, lF4, lG4, lH4, lK4, lI4, lJ4, lL4, lyI, e2]
end
theorem llI (j : Nat) : (25 : Int32) * nI j = nI (25 * j) := pk_mul 25 j
section
variable {h : pb_HP} {N : Nat}
theorem ma_Wl (I : ma_INV h) (x : Int32) : (f_107 h 1 x = some none ∧ ∀ g, ma_q h g → f_245 g 217 x = some (0, pb_pI g 217 39 x)) ∨ ∃ k Y, k < 2 ∧ x = nI k ∧ f_107 h 1 x = some (some (29 + 5 * k)) ∧ ma_L h (29 + 5 * k) 8 2 Y ∧ Y.1 ≤ 8 ∧ (∀ j, j < Y.1 → ma_gf (Y.2 j)) ∧ ∀ g, ma_q h g → f_245 g 217 x = some (1, pb_pI g 217 39 x) ∧ ma_Ly g 225 (25 * k) 3 Y := by
  obtain ⟨H, ⟨X, GX, C, M⟩, _⟩ := I
  have hn := GX.2.2.2.1 2 (by decide)
  have z : f_103 h 1 2 x = _ := c_103 H GX C (s := 2) (by decide) x
  have zm : ∀ g, ma_q h g → f_245 g 217 x = some (if ma_at x (X.2.2.2.1 2) then 1 else 0, pb_pI g 217 39 x) := by
    intro g qg
    have H2 := ma_H_q H qg
    have e := M.2.2.2.1 2 (by decide)
    have z2 : f_175 (pb_pI g 217 39 x) 217 2 x = _ := m_175 (h := pb_pI g 217 39 x) H2 (s := 2) (by omega) (show X.2.2.2.1 2 < 2 ^ 31 by omega) (by rw [ma_Ik, if_neg (by decide)]; exact (congrFun (qg.2.2 222 (by decide)) 2).trans e) x
    unfold f_245
    rw [if_pos (mi_217 H2), z2, Option.bind_some, if_pos (by cases ma_at x (X.2.2.2.1 2) <;> simp)]
  cases q : ma_at x (X.2.2.2.1 2) with
  | false =>
    left
    rw [q] at z
    refine ⟨?_, fun g qg => ?_⟩
    · unfold f_107
      rw [if_pos (mi_1 H), z]
      rfl
    · rw [zm g qg, q]; rfl
  | true =>
    right
    obtain ⟨k, hk, rfl⟩ := ma_at_ex (by omega) q
    have hk2 : k < 2 := by omega
    rw [q] at z
    refine ⟨k, X.2.2.1 k, hk2, rfl, ?_, C.2.2.1 k hk2, (GX.2.2.1 k hk2).1, (GX.2.2.1 k hk2).2, fun g qg => ⟨by rw [zm g qg, q]; rfl, ?_⟩⟩
    · have e0 : k = 0 ∨ k = 1 := by omega
      unfold f_107
      rw [if_pos (mi_1 H), z]
      simp only [Option.bind_some, mr_1_2 H]
      rw [if_neg (by decide), if_pos (mx_28 H hk2), nI_clamp (by omega)]
      rcases e0 with e0 | e0
      · subst e0; rw [mr_28_0 H]; rfl
      · subst e0; rw [mr_28_1 H]; rfl
    · have Ly := M.2.2.1 k hk2
      rw [show 2 * 0 + k = k by omega] at Ly
      unfold ma_Ly at Ly ⊢
      rw [qg.2.2 225 (by decide)]
      exact Ly
theorem m_szl {k : Nat} {Y : ma_Y} (H : ma_H h) (hk : k < 2) (e : pb_I h 217 39 = nI k) (Ly : ma_Ly h 225 (25 * k) 3 Y) : f_244 h 217 = some (nI Y.1) := by
  simp (disch := first | exact mi_217 H | exact mx_225 H (by omega) | omega) only [f_244, mr_217_8 H, e, Ly.1, nI_1, nI_add, pk_mul, pk_sub, nI_leI, nI_ltI, nI_eq, nI_clamp, Option.bind_some, ma_b0, ma_p0, if_true, if_false, mE, mF, mI_lt, mI_le, mI_eq, mI_s, nm_le, nm_lt, mn_le, mn_lt, nm_eq, mn_eq, if_pos, if_neg, ma_Ik, ma_R_pI, ma_R_pW, ma_I_pW, ma_1_pI, ma_1_pW, ma_bit, ma_has, ma_shl, fa_or, fa_and, llI]
theorem m_ofl {k j i : Nat} {Y : ma_Y} (H : ma_H h) (hk : k < 2) (e : pb_I h 217 39 = nI k) (Ly : ma_Ly h 225 (25 * k) 3 Y) (hY : Y.1 ≤ 8) (hj : j < Y.1) (hi : i < 3) : f_243 h 217 (nI j) (nI i) = some (Y.2 j i) := by
  have e2 := Ly.2 j i hj hi
  simp (disch := first | exact mi_217 H | exact mx_225 H (by omega) | omega) only [f_243, mr_217_8 H, e, nI_1, nI_add, pk_mul, pk_sub, nI_leI, nI_ltI, nI_eq, nI_clamp, Option.bind_some, ma_b0, ma_p0, if_true, if_false, mE, mF, mI_lt, mI_le, mI_eq, mI_s, nm_le, nm_lt, mn_le, mn_lt, nm_eq, mn_eq, if_pos, if_neg, ma_Ik, ma_R_pI, ma_R_pW, ma_I_pW, ma_1_pI, ma_1_pW, ma_bit, ma_has, ma_shl, fa_or, fa_and, lA1, lB1, lC1, lD1, lE1, lF1, lG1, lH1, lK1, lA3, lB3, lC3, lD3, lE3, lF3, lG3, lH3, lK3, lI3, lJ3, lL3, llI, e2]
end
section
variable {h : pb_HP} {N : Nat}
theorem q_deed (I : ma_INV h) (x y z : Int32) : ma_Q0 h (f_129 h 0 x y z) (fun g => f_215 g 217 x y z) := by
  have H := I.1
  have hq : ma_q h (pb_pI h 217 0 0) := ma_q_pI (ma_q_r h) (by decide) 0 0
  rcases ma_Wy I x with ⟨e1, e2⟩ | ⟨k, Y, hk, rfl, e1, L, hY, hg, e2⟩
  · exact ⟨-2, pb_pI (pb_pI h 217 0 0) 217 36 x, by simp only [f_129, if_pos (mi_0 H), mr_0_0 H, Option.bind_some, if_pos (mi_1 H), e1], by simp only [f_215, if_pos (mi_217 H), e2 _ hq, Option.bind_some, i10, i01, true_or, or_true, false_or, or_false, true_and, and_true, and_false, false_and, not_true_eq_false, not_false_eq_true, if_true, if_false, eq_self, ma_b0, Bool.false_eq_true, Bool.true_eq_false, reduceCtorEq], ma_q_pI hq (by decide) _ _⟩
  · obtain ⟨e3, Ly⟩ := e2 _ hq
    have H2 : ma_H (pb_pI (pb_pI h 217 0 0) 217 36 (nI k)) := H
    have Ly2 := ma_Ly_e (g := pb_pI (pb_pI h 217 0 0) 217 36 (nI k)) Ly (by rw [ma_I_pI, if_neg (by decide)])
    have sz := m_szy H2 hk rfl Ly2
    have li := wl_is H L
    have qq : ma_q h (pb_pI (pb_pI h 217 0 0) 217 36 (nI k)) := ma_q_pI hq (by decide) _ _
    by_cases qy : y = -1
    · by_cases qz : z = 0
      · subst qy; subst qz
        exact ⟨nI Y.1, _, by simp only [f_129, if_pos (mi_0 H), mr_0_0 H, Option.bind_some, if_pos (mi_1 H), e1, if_pos li, c_74a H L], by simp only [f_215, if_pos (mi_217 H), e3, Option.bind_some, if_pos (mi_217 H2), sz, i10, i01, true_or, or_true, false_or, or_false, true_and, and_true, and_false, false_and, not_true_eq_false, not_false_eq_true, if_true, if_false, eq_self, ma_b0, Bool.false_eq_true, Bool.true_eq_false, reduceCtorEq], qq⟩
      · have c := c_74b (k := y) (w := z) H L (by decide) hY (by decide) (fun w => qz w.2) (.inl (by rw [qy]; unfold ma_at; rw [Bool.and_eq_false_iff]; left; decide))
        exact ⟨-2, _, by simp only [f_129, if_pos (mi_0 H), mr_0_0 H, Option.bind_some, if_pos (mi_1 H), e1, if_pos li, c], by simp only [f_215, if_pos (mi_217 H), e3, Option.bind_some, if_pos (mi_217 H2), qy, qz, i10, i01, true_or, or_true, false_or, or_false, true_and, and_true, and_false, false_and, not_true_eq_false, not_false_eq_true, if_true, if_false, eq_self, ma_b0, Bool.false_eq_true, Bool.true_eq_false, reduceCtorEq], qq⟩
    · have z1 := m_168 y (n := Y.1) (by omega)
      have z2 := m_168z z (n := 3) (y := 3) rfl (by decide)
      cases a1 : ma_at y Y.1
      · rw [a1] at z1
        have c := c_74b (k := y) (w := z) H L (by decide) hY (by decide) (fun w => qy w.1) (.inl a1)
        exact ⟨-2, _, by simp only [f_129, if_pos (mi_0 H), mr_0_0 H, Option.bind_some, if_pos (mi_1 H), e1, if_pos li, c], by simp only [f_215, if_pos (mi_217 H), e3, Option.bind_some, if_pos (mi_217 H2), sz, z1, qy, i10, i01, true_or, or_true, false_or, or_false, true_and, and_true, and_false, false_and, not_true_eq_false, not_false_eq_true, if_true, if_false, eq_self, ma_b0, Bool.false_eq_true, Bool.true_eq_false, reduceCtorEq], qq⟩
      · rw [a1] at z1
        cases a2 : ma_at z (3 + 1)
        · rw [a2] at z2
          have c := c_74b (k := y) (w := z) H L (by decide) hY (by decide) (fun w => qy w.1) (.inr a2)
          exact ⟨-2, _, by simp only [f_129, if_pos (mi_0 H), mr_0_0 H, Option.bind_some, if_pos (mi_1 H), e1, if_pos li, c], by simp only [f_215, if_pos (mi_217 H), e3, Option.bind_some, if_pos (mi_217 H2), sz, z1, z2, qy, i10, i01, true_or, or_true, false_or, or_false, true_and, and_true, and_false, false_and, not_true_eq_false, not_false_eq_true, if_true, if_false, eq_self, ma_b0, Bool.false_eq_true, Bool.true_eq_false, reduceCtorEq], qq⟩
        · rw [a2] at z2
          obtain ⟨j, hj, rfl⟩ := ma_at_ex (by omega) a1
          obtain ⟨i, hi, rfl⟩ := ma_at_ex (by omega) a2
          have c := c_74c H L (by decide) hY (by decide) (by decide) hj (show i ≤ 3 by omega)
          have o := m_ofy H2 hk rfl Ly2 hY hj (show i < 3 + 1 by omega)
          exact ⟨Y.2 j i, _, by simp only [f_129, if_pos (mi_0 H), mr_0_0 H, Option.bind_some, if_pos (mi_1 H), e1, if_pos li, c], by simp only [f_215, if_pos (mi_217 H), e3, Option.bind_some, if_pos (mi_217 H2), sz, z1, z2, o, qy, i10, i01, true_or, or_true, false_or, or_false, true_and, and_true, and_false, false_and, not_true_eq_false, not_false_eq_true, if_true, if_false, eq_self, ma_b0, Bool.false_eq_true, Bool.true_eq_false, reduceCtorEq], qq⟩
end
section
variable {h : pb_HP} {N : Nat}
theorem q_fact (I : ma_INV h) (x y z : Int32) : ma_Q0 h (f_139 h 0 x y z) (fun g => f_246 g 217 x y z) := by
  have H := I.1
  have hq : ma_q h (pb_pI h 217 0 0) := ma_q_pI (ma_q_r h) (by decide) 0 0
  rcases ma_Wl I x with ⟨e1, e2⟩ | ⟨k, Y, hk, rfl, e1, L, hY, hg, e2⟩
  · exact ⟨-2, pb_pI (pb_pI h 217 0 0) 217 39 x, by simp only [f_139, if_pos (mi_0 H), mr_0_0 H, Option.bind_some, if_pos (mi_1 H), e1], by simp only [f_246, if_pos (mi_217 H), e2 _ hq, Option.bind_some, i10, i01, true_or, or_true, false_or, or_false, true_and, and_true, and_false, false_and, not_true_eq_false, not_false_eq_true, if_true, if_false, eq_self, ma_b0, Bool.false_eq_true, Bool.true_eq_false, reduceCtorEq], ma_q_pI hq (by decide) _ _⟩
  · obtain ⟨e3, Ly⟩ := e2 _ hq
    have H2 : ma_H (pb_pI (pb_pI h 217 0 0) 217 39 (nI k)) := H
    have Ly2 := ma_Ly_e (g := pb_pI (pb_pI h 217 0 0) 217 39 (nI k)) Ly (by rw [ma_I_pI, if_neg (by decide)])
    have sz := m_szl H2 hk rfl Ly2
    have li := wl_is H L
    have qq : ma_q h (pb_pI (pb_pI h 217 0 0) 217 39 (nI k)) := ma_q_pI hq (by decide) _ _
    by_cases qy : y = -1
    · by_cases qz : z = 0
      · subst qy; subst qz
        exact ⟨nI Y.1, _, by simp only [f_139, if_pos (mi_0 H), mr_0_0 H, Option.bind_some, if_pos (mi_1 H), e1, if_pos li, c_74a H L], by simp only [f_246, if_pos (mi_217 H), e3, Option.bind_some, if_pos (mi_217 H2), sz, i10, i01, true_or, or_true, false_or, or_false, true_and, and_true, and_false, false_and, not_true_eq_false, not_false_eq_true, if_true, if_false, eq_self, ma_b0, Bool.false_eq_true, Bool.true_eq_false, reduceCtorEq], qq⟩
      · have c := c_74b (k := y) (w := z) H L (by decide) hY (by decide) (fun w => qz w.2) (.inl (by rw [qy]; unfold ma_at; rw [Bool.and_eq_false_iff]; left; decide))
        exact ⟨-2, _, by simp only [f_139, if_pos (mi_0 H), mr_0_0 H, Option.bind_some, if_pos (mi_1 H), e1, if_pos li, c], by simp only [f_246, if_pos (mi_217 H), e3, Option.bind_some, if_pos (mi_217 H2), qy, qz, i10, i01, true_or, or_true, false_or, or_false, true_and, and_true, and_false, false_and, not_true_eq_false, not_false_eq_true, if_true, if_false, eq_self, ma_b0, Bool.false_eq_true, Bool.true_eq_false, reduceCtorEq], qq⟩
    · have z1 := m_168 y (n := Y.1) (by omega)
      have z2 := m_168z z (n := 2) (y := 2) rfl (by decide)
      cases a1 : ma_at y Y.1
      · rw [a1] at z1
        have c := c_74b (k := y) (w := z) H L (by decide) hY (by decide) (fun w => qy w.1) (.inl a1)
        exact ⟨-2, _, by simp only [f_139, if_pos (mi_0 H), mr_0_0 H, Option.bind_some, if_pos (mi_1 H), e1, if_pos li, c], by simp only [f_246, if_pos (mi_217 H), e3, Option.bind_some, if_pos (mi_217 H2), sz, z1, qy, i10, i01, true_or, or_true, false_or, or_false, true_and, and_true, and_false, false_and, not_true_eq_false, not_false_eq_true, if_true, if_false, eq_self, ma_b0, Bool.false_eq_true, Bool.true_eq_false, reduceCtorEq], qq⟩
      · rw [a1] at z1
        cases a2 : ma_at z (2 + 1)
        · rw [a2] at z2
          have c := c_74b (k := y) (w := z) H L (by decide) hY (by decide) (fun w => qy w.1) (.inr a2)
          exact ⟨-2, _, by simp only [f_139, if_pos (mi_0 H), mr_0_0 H, Option.bind_some, if_pos (mi_1 H), e1, if_pos li, c], by simp only [f_246, if_pos (mi_217 H), e3, Option.bind_some, if_pos (mi_217 H2), sz, z1, z2, qy, i10, i01, true_or, or_true, false_or, or_false, true_and, and_true, and_false, false_and, not_true_eq_false, not_false_eq_true, if_true, if_false, eq_self, ma_b0, Bool.false_eq_true, Bool.true_eq_false, reduceCtorEq], qq⟩
        · rw [a2] at z2
          obtain ⟨j, hj, rfl⟩ := ma_at_ex (by omega) a1
          obtain ⟨i, hi, rfl⟩ := ma_at_ex (by omega) a2
          have c := c_74c H L (by decide) hY (by decide) (by decide) hj (show i ≤ 2 by omega)
          have o := m_ofl H2 hk rfl Ly2 hY hj (show i < 2 + 1 by omega)
          exact ⟨Y.2 j i, _, by simp only [f_139, if_pos (mi_0 H), mr_0_0 H, Option.bind_some, if_pos (mi_1 H), e1, if_pos li, c], by simp only [f_246, if_pos (mi_217 H), e3, Option.bind_some, if_pos (mi_217 H2), sz, z1, z2, o, qy, i10, i01, true_or, or_true, false_or, or_false, true_and, and_true, and_false, false_and, not_true_eq_false, not_false_eq_true, if_true, if_false, eq_self, ma_b0, Bool.false_eq_true, Bool.true_eq_false, reduceCtorEq], qq⟩
end
def sp_lk (K : ma_K) (b : Nat) : Int32 := if b / 10 < K 0 1 ∧ b - 10 * (b / 10) < 6 then nI (K 6 (6 * (b / 10) + (b - 10 * (b / 10)))) else -1
def sp_ct (K : ma_K) (q r : Nat) : Int32 := if q = 0 then (if r = 0 then nI (K 0 0) else if r = 1 then nI (K 0 1) else -1) else if q = 1 then (if r < K 0 0 then nI (K 1 r) else -1) else if q = 2 then (if r < K 0 0 then nI (K 2 r) else -1) else if q = 3 then (if r < K 0 1 then nI (K 3 r) else -1) else if q = 4 then (if r < K 0 1 then nI (K 4 r) else -1) else if q = 5 then (if r < K 0 1 then nI (K 5 r) else -1) else -1
section
variable {h : pb_HP} {K : ma_K} {N c : Nat}
theorem c_6 (H : ma_H h) (V : ma_V h c K) (O : ma_OK K) {b : Nat} (hb : b < 2 ^ 31) : f_6 h c (nI b) = some (sp_lk K b) := by
  have hch := O.2.1
  have Vc := V.1
  unfold sp_lk
  by_cases q1 : b / 10 < K 0 1 <;> by_cases q2 : b - 10 * (b / 10) < 6 <;> simp (disch := first | exact wv_is H Vc | exact wv_x1 H Vc (by omega) | exact wv_x2 H Vc (by omega) | exact wv_x3 H Vc (by omega) | exact wv_x4 H Vc (by omega) | exact wv_x5 H Vc (by omega) | exact wv_x6 H Vc (by omega) | omega) only [f_6, nI_1, nI_add, pk_mul, pk_sub, nI_leI, nI_ltI, nI_eq, nI_clamp, Option.bind_some, ma_b0, ma_p0, if_true, if_false, mE, mF, mI_lt, mI_le, mI_eq, mI_s, nm_le, nm_lt, mn_le, mn_lt, nm_eq, mn_eq, if_pos, if_neg, ma_Ik, ma_R_pI, ma_R_pW, ma_I_pW, ma_1_pI, ma_1_pW, ma_bit, ma_has, ma_shl, fa_or, fa_and, lA0, lB0, lC0, lD0, lE0, lF0, lG0, lH0, lA1, lB1, lC1, lD1, lE1, lF1, lG1, lH1, lK1, lA2, lB2, lC2, lD2, lE2, lF2, lG2, lH2, lK2, lI2, lJ2, lL2, lA5, lB5, lC5, lD5, lE5, lF5, lG5, lH5, lK5, lI5, lJ5, lL5, lA6, lB6, lC6, lD6, lE6, lF6, lG6, lH6, lK6, lI6, lJ6, lL6, lA7, lB7, lC7, lD7, lE7, lF7, lG7, lH7, lK7, lI7, lJ7, lL7, lA10, lB10, lC10, lD10, lE10, lF10, lG10, lH10, lK10, lI10, lJ10, lL10, jv_r2 H V.1, jv_r3 H V.1, jv_r4 H V.1, jv_r5 H V.1, jv_r6 H V.1, jv_r7 H V.1, V.2.1, V.2.2.1, V.2.2.2.1, V.2.2.2.2.1, V.2.2.2.2.2.1, V.2.2.2.2.2.2.1, V.2.2.2.2.2.2.2.1, V.2.2.2.2.2.2.2.2, c_4 H V, ma_at_nI, q1, q2, decide_true, decide_false, Bool.true_eq_false, Bool.false_eq_true, i10, i01, true_or, or_true, false_or, or_false, true_and, and_true, and_false, false_and, not_true_eq_false, not_false_eq_true, if_true, if_false, eq_self]
theorem c_5 (H : ma_H h) (V : ma_V h c K) (O : ma_OK K) {w : Nat} (hw : w < 2 ^ 31) : f_5 h c (nI w) = some (if w < 100 then sp_ct K (w / 10) (w - 10 * (w / 10)) else sp_lk K (w - 100)) := by
  have hch := O.2.1
  have hme := O.1
  have Vc := V.1
  by_cases h1 : w < 100
  · obtain ⟨q, hq⟩ : ∃ q, q = w / 10 := ⟨_, rfl⟩
    obtain ⟨r, hr⟩ : ∃ r, r = w - 10 * q := ⟨_, rfl⟩
    rw [if_pos h1, ← hq, ← hr]
    have e1 : nI w / 10 = nI q := by rw [lL10 hw, ← hq]
    have e2 : nI w - nI q * 10 = nI r := by rw [lJ10, pk_sub (by omega), ← hr]
    have : q = 0 ∨ q = 1 ∨ q = 2 ∨ q = 3 ∨ q = 4 ∨ q = 5 ∨ 5 < q := by omega
    have p0 : ((0 : Int32) ≤ nI w) = True := eq_true (nI_pos' hw)
    have p1 : (nI w < (100 : Int32)) = True := eq_true ((lD100 hw).mpr h1)
    unfold sp_ct
    rcases this with z | z | z | z | z | z | z
    · subst z
      simp only [f_5, p0, p1, e1, e2, (show (nI 0 = (0 : Int32)) = True from eq_true rfl), ↓reduceIte]
      by_cases r0 : r = 0
      · simp (disch := first | exact wv_is H Vc | exact wv_x1 H Vc (by omega) | exact wv_x2 H Vc (by omega) | exact wv_x3 H Vc (by omega) | exact wv_x4 H Vc (by omega) | exact wv_x5 H Vc (by omega) | exact wv_x6 H Vc (by omega) | omega) only [nI_1, nI_add, pk_mul, pk_sub, nI_leI, nI_ltI, nI_eq, nI_clamp, Option.bind_some, ma_b0, ma_p0, if_true, if_false, mE, mF, mI_lt, mI_le, mI_eq, mI_s, nm_le, nm_lt, mn_le, mn_lt, nm_eq, mn_eq, if_pos, if_neg, ma_Ik, ma_R_pI, ma_R_pW, ma_I_pW, ma_1_pI, ma_1_pW, ma_bit, ma_has, ma_shl, fa_or, fa_and, lA0, lB0, lC0, lD0, lE0, lF0, lG0, lH0, lA1, lB1, lC1, lD1, lE1, lF1, lG1, lH1, lK1, jv_r2 H V.1, jv_r3 H V.1, jv_r4 H V.1, jv_r5 H V.1, jv_r6 H V.1, jv_r7 H V.1, V.2.1, V.2.2.1, V.2.2.2.1, V.2.2.2.2.1, V.2.2.2.2.2.1, V.2.2.2.2.2.2.1, V.2.2.2.2.2.2.2.1, V.2.2.2.2.2.2.2.2, r0, i10, i01, true_or, or_true, false_or, or_false, true_and, and_true, and_false, false_and, not_true_eq_false, not_false_eq_true, if_true, if_false, eq_self]
      · by_cases r1 : r = 1 <;> simp (disch := first | exact wv_is H Vc | exact wv_x1 H Vc (by omega) | exact wv_x2 H Vc (by omega) | exact wv_x3 H Vc (by omega) | exact wv_x4 H Vc (by omega) | exact wv_x5 H Vc (by omega) | exact wv_x6 H Vc (by omega) | omega) only [nI_1, nI_add, pk_mul, pk_sub, nI_leI, nI_ltI, nI_eq, nI_clamp, Option.bind_some, ma_b0, ma_p0, if_true, if_false, mE, mF, mI_lt, mI_le, mI_eq, mI_s, nm_le, nm_lt, mn_le, mn_lt, nm_eq, mn_eq, if_pos, if_neg, ma_Ik, ma_R_pI, ma_R_pW, ma_I_pW, ma_1_pI, ma_1_pW, ma_bit, ma_has, ma_shl, fa_or, fa_and, lA0, lB0, lC0, lD0, lE0, lF0, lG0, lH0, lA1, lB1, lC1, lD1, lE1, lF1, lG1, lH1, lK1, jv_r2 H V.1, jv_r3 H V.1, jv_r4 H V.1, jv_r5 H V.1, jv_r6 H V.1, jv_r7 H V.1, V.2.1, V.2.2.1, V.2.2.2.1, V.2.2.2.2.1, V.2.2.2.2.2.1, V.2.2.2.2.2.2.1, V.2.2.2.2.2.2.2.1, V.2.2.2.2.2.2.2.2, r0, r1, i10, i01, true_or, or_true, false_or, or_false, true_and, and_true, and_false, false_and, not_true_eq_false, not_false_eq_true, if_true, if_false, eq_self]
    · subst z
      simp only [f_5, p0, p1, e1, e2, (show (nI 1 = (0 : Int32)) = False from eq_false (by decide)), (show (nI 1 = (1 : Int32)) = True from eq_true rfl), ↓reduceIte, (show (1 = 0) = False from eq_false (by decide))]
      by_cases m1 : r < K 0 0 <;> simp (disch := first | exact wv_is H Vc | exact wv_x1 H Vc (by omega) | exact wv_x2 H Vc (by omega) | exact wv_x3 H Vc (by omega) | exact wv_x4 H Vc (by omega) | exact wv_x5 H Vc (by omega) | exact wv_x6 H Vc (by omega) | omega) only [nI_1, nI_add, pk_mul, pk_sub, nI_leI, nI_ltI, nI_eq, nI_clamp, Option.bind_some, ma_b0, ma_p0, if_true, if_false, mE, mF, mI_lt, mI_le, mI_eq, mI_s, nm_le, nm_lt, mn_le, mn_lt, nm_eq, mn_eq, if_pos, if_neg, ma_Ik, ma_R_pI, ma_R_pW, ma_I_pW, ma_1_pI, ma_1_pW, ma_bit, ma_has, ma_shl, fa_or, fa_and, jv_r2 H V.1, jv_r3 H V.1, jv_r4 H V.1, jv_r5 H V.1, jv_r6 H V.1, jv_r7 H V.1, V.2.1, V.2.2.1, V.2.2.2.1, V.2.2.2.2.1, V.2.2.2.2.2.1, V.2.2.2.2.2.2.1, V.2.2.2.2.2.2.2.1, V.2.2.2.2.2.2.2.2, c_3 H V, c_4 H V, ma_at_nI, m1, decide_true, decide_false, Bool.true_eq_false, Bool.false_eq_true, i10, i01, true_or, or_true, false_or, or_false, true_and, and_true, and_false, false_and, not_true_eq_false, not_false_eq_true, if_true, if_false, eq_self]
    · subst z
      simp only [f_5, p0, p1, e1, e2, (show (nI 2 = (0 : Int32)) = False from eq_false (by decide)), (show (nI 2 = (1 : Int32)) = False from eq_false (by decide)), (show (nI 2 = (2 : Int32)) = True from eq_true rfl), ↓reduceIte, (show (2 = 0) = False from eq_false (by decide)), (show (2 = 1) = False from eq_false (by decide))]
      by_cases m1 : r < K 0 0 <;> simp (disch := first | exact wv_is H Vc | exact wv_x1 H Vc (by omega) | exact wv_x2 H Vc (by omega) | exact wv_x3 H Vc (by omega) | exact wv_x4 H Vc (by omega) | exact wv_x5 H Vc (by omega) | exact wv_x6 H Vc (by omega) | omega) only [nI_1, nI_add, pk_mul, pk_sub, nI_leI, nI_ltI, nI_eq, nI_clamp, Option.bind_some, ma_b0, ma_p0, if_true, if_false, mE, mF, mI_lt, mI_le, mI_eq, mI_s, nm_le, nm_lt, mn_le, mn_lt, nm_eq, mn_eq, if_pos, if_neg, ma_Ik, ma_R_pI, ma_R_pW, ma_I_pW, ma_1_pI, ma_1_pW, ma_bit, ma_has, ma_shl, fa_or, fa_and, jv_r2 H V.1, jv_r3 H V.1, jv_r4 H V.1, jv_r5 H V.1, jv_r6 H V.1, jv_r7 H V.1, V.2.1, V.2.2.1, V.2.2.2.1, V.2.2.2.2.1, V.2.2.2.2.2.1, V.2.2.2.2.2.2.1, V.2.2.2.2.2.2.2.1, V.2.2.2.2.2.2.2.2, c_3 H V, c_4 H V, ma_at_nI, m1, decide_true, decide_false, Bool.true_eq_false, Bool.false_eq_true, i10, i01, true_or, or_true, false_or, or_false, true_and, and_true, and_false, false_and, not_true_eq_false, not_false_eq_true, if_true, if_false, eq_self]
    · subst z
      simp only [f_5, p0, p1, e1, e2, (show (nI 3 = (0 : Int32)) = False from eq_false (by decide)), (show (nI 3 = (1 : Int32)) = False from eq_false (by decide)), (show (nI 3 = (2 : Int32)) = False from eq_false (by decide)), (show (nI 3 = (3 : Int32)) = True from eq_true rfl), ↓reduceIte, (show (3 = 0) = False from eq_false (by decide)), (show (3 = 1) = False from eq_false (by decide)), (show (3 = 2) = False from eq_false (by decide))]
      by_cases m1 : r < K 0 1 <;> simp (disch := first | exact wv_is H Vc | exact wv_x1 H Vc (by omega) | exact wv_x2 H Vc (by omega) | exact wv_x3 H Vc (by omega) | exact wv_x4 H Vc (by omega) | exact wv_x5 H Vc (by omega) | exact wv_x6 H Vc (by omega) | omega) only [nI_1, nI_add, pk_mul, pk_sub, nI_leI, nI_ltI, nI_eq, nI_clamp, Option.bind_some, ma_b0, ma_p0, if_true, if_false, mE, mF, mI_lt, mI_le, mI_eq, mI_s, nm_le, nm_lt, mn_le, mn_lt, nm_eq, mn_eq, if_pos, if_neg, ma_Ik, ma_R_pI, ma_R_pW, ma_I_pW, ma_1_pI, ma_1_pW, ma_bit, ma_has, ma_shl, fa_or, fa_and, jv_r2 H V.1, jv_r3 H V.1, jv_r4 H V.1, jv_r5 H V.1, jv_r6 H V.1, jv_r7 H V.1, V.2.1, V.2.2.1, V.2.2.2.1, V.2.2.2.2.1, V.2.2.2.2.2.1, V.2.2.2.2.2.2.1, V.2.2.2.2.2.2.2.1, V.2.2.2.2.2.2.2.2, c_3 H V, c_4 H V, ma_at_nI, m1, decide_true, decide_false, Bool.true_eq_false, Bool.false_eq_true, i10, i01, true_or, or_true, false_or, or_false, true_and, and_true, and_false, false_and, not_true_eq_false, not_false_eq_true, if_true, if_false, eq_self]
    · subst z
      simp only [f_5, p0, p1, e1, e2, (show (nI 4 = (0 : Int32)) = False from eq_false (by decide)), (show (nI 4 = (1 : Int32)) = False from eq_false (by decide)), (show (nI 4 = (2 : Int32)) = False from eq_false (by decide)), (show (nI 4 = (3 : Int32)) = False from eq_false (by decide)), (show (nI 4 = (4 : Int32)) = True from eq_true rfl), ↓reduceIte, (show (4 = 0) = False from eq_false (by decide)), (show (4 = 1) = False from eq_false (by decide)), (show (4 = 2) = False from eq_false (by decide)), (show (4 = 3) = False from eq_false (by decide))]
      by_cases m1 : r < K 0 1 <;> simp (disch := first | exact wv_is H Vc | exact wv_x1 H Vc (by omega) | exact wv_x2 H Vc (by omega) | exact wv_x3 H Vc (by omega) | exact wv_x4 H Vc (by omega) | exact wv_x5 H Vc (by omega) | exact wv_x6 H Vc (by omega) | omega) only [nI_1, nI_add, pk_mul, pk_sub, nI_leI, nI_ltI, nI_eq, nI_clamp, Option.bind_some, ma_b0, ma_p0, if_true, if_false, mE, mF, mI_lt, mI_le, mI_eq, mI_s, nm_le, nm_lt, mn_le, mn_lt, nm_eq, mn_eq, if_pos, if_neg, ma_Ik, ma_R_pI, ma_R_pW, ma_I_pW, ma_1_pI, ma_1_pW, ma_bit, ma_has, ma_shl, fa_or, fa_and, jv_r2 H V.1, jv_r3 H V.1, jv_r4 H V.1, jv_r5 H V.1, jv_r6 H V.1, jv_r7 H V.1, V.2.1, V.2.2.1, V.2.2.2.1, V.2.2.2.2.1, V.2.2.2.2.2.1, V.2.2.2.2.2.2.1, V.2.2.2.2.2.2.2.1, V.2.2.2.2.2.2.2.2, c_3 H V, c_4 H V, ma_at_nI, m1, decide_true, decide_false, Bool.true_eq_false, Bool.false_eq_true, i10, i01, true_or, or_true, false_or, or_false, true_and, and_true, and_false, false_and, not_true_eq_false, not_false_eq_true, if_true, if_false, eq_self]
    · subst z
      simp only [f_5, p0, p1, e1, e2, (show (nI 5 = (0 : Int32)) = False from eq_false (by decide)), (show (nI 5 = (1 : Int32)) = False from eq_false (by decide)), (show (nI 5 = (2 : Int32)) = False from eq_false (by decide)), (show (nI 5 = (3 : Int32)) = False from eq_false (by decide)), (show (nI 5 = (4 : Int32)) = False from eq_false (by decide)), (show (nI 5 = (5 : Int32)) = True from eq_true rfl), ↓reduceIte, (show (5 = 0) = False from eq_false (by decide)), (show (5 = 1) = False from eq_false (by decide)), (show (5 = 2) = False from eq_false (by decide)), (show (5 = 3) = False from eq_false (by decide)), (show (5 = 4) = False from eq_false (by decide))]
      by_cases m1 : r < K 0 1 <;> simp (disch := first | exact wv_is H Vc | exact wv_x1 H Vc (by omega) | exact wv_x2 H Vc (by omega) | exact wv_x3 H Vc (by omega) | exact wv_x4 H Vc (by omega) | exact wv_x5 H Vc (by omega) | exact wv_x6 H Vc (by omega) | omega) only [nI_1, nI_add, pk_mul, pk_sub, nI_leI, nI_ltI, nI_eq, nI_clamp, Option.bind_some, ma_b0, ma_p0, if_true, if_false, mE, mF, mI_lt, mI_le, mI_eq, mI_s, nm_le, nm_lt, mn_le, mn_lt, nm_eq, mn_eq, if_pos, if_neg, ma_Ik, ma_R_pI, ma_R_pW, ma_I_pW, ma_1_pI, ma_1_pW, ma_bit, ma_has, ma_shl, fa_or, fa_and, jv_r2 H V.1, jv_r3 H V.1, jv_r4 H V.1, jv_r5 H V.1, jv_r6 H V.1, jv_r7 H V.1, V.2.1, V.2.2.1, V.2.2.2.1, V.2.2.2.2.1, V.2.2.2.2.2.1, V.2.2.2.2.2.2.1, V.2.2.2.2.2.2.2.1, V.2.2.2.2.2.2.2.2, c_3 H V, c_4 H V, ma_at_nI, m1, decide_true, decide_false, Bool.true_eq_false, Bool.false_eq_true, i10, i01, true_or, or_true, false_or, or_false, true_and, and_true, and_false, false_and, not_true_eq_false, not_false_eq_true, if_true, if_false, eq_self]
    · simp only [f_5, p0, p1, e1, e2, (show (nI q = (0 : Int32)) = False from eq_false (fun y => by have := (nI_eq (b := 0) (by omega) (by decide)).mp y; omega)), (show (nI q = (1 : Int32)) = False from eq_false (fun y => by have := (nI_eq (b := 1) (by omega) (by decide)).mp y; omega)), (show (nI q = (2 : Int32)) = False from eq_false (fun y => by have := (nI_eq (b := 2) (by omega) (by decide)).mp y; omega)), (show (nI q = (3 : Int32)) = False from eq_false (fun y => by have := (nI_eq (b := 3) (by omega) (by decide)).mp y; omega)), (show (nI q = (4 : Int32)) = False from eq_false (fun y => by have := (nI_eq (b := 4) (by omega) (by decide)).mp y; omega)), (show (nI q = (5 : Int32)) = False from eq_false (fun y => by have := (nI_eq (b := 5) (by omega) (by decide)).mp y; omega)), ↓reduceIte, (show (q = 0) = False from eq_false (by omega)), (show (q = 1) = False from eq_false (by omega)), (show (q = 2) = False from eq_false (by omega)), (show (q = 3) = False from eq_false (by omega)), (show (q = 4) = False from eq_false (by omega)), (show (q = 5) = False from eq_false (by omega))]
  · simp (disch := first | exact wv_is H Vc | exact wv_x1 H Vc (by omega) | exact wv_x2 H Vc (by omega) | exact wv_x3 H Vc (by omega) | exact wv_x4 H Vc (by omega) | exact wv_x5 H Vc (by omega) | exact wv_x6 H Vc (by omega) | omega) only [f_5, nI_1, nI_add, pk_mul, pk_sub, nI_leI, nI_ltI, nI_eq, nI_clamp, Option.bind_some, ma_b0, ma_p0, if_true, if_false, mE, mF, mI_lt, mI_le, mI_eq, mI_s, nm_le, nm_lt, mn_le, mn_lt, nm_eq, mn_eq, if_pos, if_neg, ma_Ik, ma_R_pI, ma_R_pW, ma_I_pW, ma_1_pI, ma_1_pW, ma_bit, ma_has, ma_shl, fa_or, fa_and, lA0, lB0, lC0, lD0, lE0, lF0, lG0, lH0, lA100, lB100, lC100, lD100, lE100, lF100, lG100, lH100, lK100, lI100, lJ100, lL100, c_6 H V O, h1, i10, i01, true_or, or_true, false_or, or_false, true_and, and_true, and_false, false_and, not_true_eq_false, not_false_eq_true, if_true, if_false, eq_self]
theorem c_5n (x : Int32) (hx : x < 0) : f_5 h c x = some (-1) := by
  have : ¬ (0 : Int32) ≤ x := by rw [Int32.not_le]; exact hx
  simp only [f_5, if_neg this]
theorem ma_ndiv {x : Int32} (hx : x < 0) {k : Nat} (h0 : 0 < k) (hk : k < 10) : ¬ x / 10 = nI k := by
  intro e
  have h1 : (x / 10).toInt = x.toInt.tdiv 10 := by
    rw [Int32.toInt_div]
    have k2 : (10 : Int32).toInt = 10 := by decide
    rw [k2]
    have b1 := Int32.le_toInt x
    have b2 := Int32.toInt_lt x
    rw [Int32.lt_iff_toInt_lt] at hx
    have k3 : (0 : Int32).toInt = 0 := by decide
    rw [k3] at hx
    have : x.toInt.tdiv 10 = - ((-x.toInt) / 10) := by
      have e : x.toInt = - (-x.toInt) := by omega
      rw [e, Int.neg_tdiv, Int.tdiv_eq_ediv_of_nonneg (by omega)]
      rw [Int.neg_neg]
    rw [this]
    exact Int.bmod_eq_of_le (by omega) (by omega)
  have h2 : (x / 10).toInt = k := by rw [e, nI_toInt (by omega)]
  rw [Int32.lt_iff_toInt_lt] at hx
  have k3 : (0 : Int32).toInt = 0 := by decide
  rw [k3] at hx
  have : x.toInt.tdiv 10 = - ((-x.toInt) / 10) := by
    have e : x.toInt = - (-x.toInt) := by omega
    rw [e, Int.neg_tdiv, Int.tdiv_eq_ediv_of_nonneg (by omega)]
    rw [Int.neg_neg]
  omega
theorem q_county (I : ma_INV h) (hN : 3000 < N) (x y : Int32) : ma_Q0 h (f_128 h 0 x y) (fun g => f_211 N g 217 x y) := by
  have H := I.1
  have hq : ma_q h (pb_pI h 217 0 0) := ma_q_pI (ma_q_r h) (by decide) 0 0
  rcases ma_W I hN x with ⟨e1, e2⟩ | ⟨c, K, e1, hc, O, OT, V, e2⟩
  · exact ⟨-1, pb_pI h 217 0 0, by simp only [f_128, if_pos (mi_0 H), mr_0_0 H, Option.bind_some, if_pos (mi_1 H), e1], by simp only [f_211, if_pos (mi_217 H), e2 _ hq, Option.bind_some, i10, i01, true_or, or_true, false_or, or_false, true_and, and_true, and_false, false_and, not_true_eq_false, not_false_eq_true, if_true, if_false, eq_self, ma_b0, Bool.false_eq_true, Bool.true_eq_false, reduceCtorEq], hq⟩
  · obtain ⟨g, e3, q3, B⟩ := e2 _ hq
    have Hg := B.1
    have hM := B.2.1
    have hme := O.1
    have hch := O.2.1
    obtain ⟨o1, o2, o3, o4, o5, o6, o7⟩ := m_of B.1 B.2.2.1
    by_cases hy : y < 0
    · refine ⟨-1, g, by simp only [f_128, if_pos (mi_0 H), mr_0_0 H, Option.bind_some, if_pos (mi_1 H), e1, if_pos (wv_is H V.1), c_5n y hy], ?_, ma_q_t hq q3⟩
      have n1 : ¬ y / 10 = 1 := ma_ndiv hy (k := 1) (by decide) (by decide)
      have n2 : ¬ y / 10 = 2 := ma_ndiv hy (k := 2) (by decide) (by decide)
      have n3 : ¬ y / 10 = 3 := ma_ndiv hy (k := 3) (by decide) (by decide)
      have n4 : ¬ y / 10 = 4 := ma_ndiv hy (k := 4) (by decide) (by decide)
      have n5 : ¬ y / 10 = 5 := ma_ndiv hy (k := 5) (by decide) (by decide)
      have y1 : y < 100 := by
        rw [Int32.lt_iff_toInt_lt] at hy ⊢
        have k3 : (0 : Int32).toInt = 0 := by decide
        have k4 : (100 : Int32).toInt = 100 := by decide
        omega
      have z : f_168 y 0 1 = some 0 := by unfold f_168; rw [if_pos hy]
      simp only [f_211, if_pos (mi_217 H), e3, Option.bind_some, if_pos y1, n1, n2, n3, n4, n5, z, i10, i01, true_or, or_true, false_or, or_false, true_and, and_true, and_false, false_and, not_true_eq_false, not_false_eq_true, if_true, if_false, eq_self, ma_b0, Bool.false_eq_true, Bool.true_eq_false, reduceCtorEq, ite_self]
    · obtain ⟨w, hw, rfl⟩ := nI_of hy
      refine ⟨if w < 100 then sp_ct K (w / 10) (w - 10 * (w / 10)) else sp_lk K (w - 100), g, by simp only [f_128, if_pos (mi_0 H), mr_0_0 H, Option.bind_some, if_pos (mi_1 H), e1, if_pos (wv_is H V.1), c_5 H V O hw], ?_, ma_q_t hq q3⟩
      by_cases h1 : w < 100
      · obtain ⟨q, hq⟩ : ∃ q, q = w / 10 := ⟨_, rfl⟩
        obtain ⟨r, hr⟩ : ∃ r, r = w - 10 * q := ⟨_, rfl⟩
        rw [if_pos h1, ← hq, ← hr]
        have f1 : nI w / 10 = nI q := by rw [lL10 hw, ← hq]
        have f2 : nI w - nI q * 10 = nI r := by rw [lJ10, pk_sub (by omega), ← hr]
        have : q = 0 ∨ q = 1 ∨ q = 2 ∨ q = 3 ∨ q = 4 ∨ q = 5 ∨ 5 < q := by omega
        have p1 : (nI w < (100 : Int32)) = True := eq_true ((lD100 hw).mpr h1)
        simp only [f_211, if_pos (mi_217 H), e3, Option.bind_some, i10, not_false_eq_true, p1, f1, f2, ↓reduceIte]
        unfold sp_ct
        rcases this with z | z | z | z | z | z | z
        · subst z
          have hwr : w = r := by omega
          subst hwr
          simp only [(show (nI 0 = (0 : Int32)) = True from eq_true rfl), ↓reduceIte]
          have zz := m_168z (nI w) (n := 1) (y := 1) rfl (by decide)
          rw [ma_at_nI (by omega) (by decide)] at zz
          rw [zz, Option.bind_some]
          by_cases r0 : w = 0
          · subst r0; simp (disch := first | exact mi_217 Hg | omega) only [nI_1, nI_add, pk_mul, pk_sub, nI_leI, nI_ltI, nI_eq, nI_clamp, Option.bind_some, ma_b0, ma_p0, if_true, if_false, mE, mF, mI_lt, mI_le, mI_eq, mI_s, nm_le, nm_lt, mn_le, mn_lt, nm_eq, mn_eq, if_pos, if_neg, ma_Ik, ma_R_pI, ma_R_pW, ma_I_pW, ma_1_pI, ma_1_pW, ma_bit, ma_has, ma_shl, fa_or, fa_and, o6, decide_true, (show (0 : Nat) < 1 + 1 by decide), i10, i01, true_or, or_true, false_or, or_false, true_and, and_true, and_false, false_and, not_true_eq_false, not_false_eq_true, if_true, if_false, eq_self, Bool.true_eq_false]
          · by_cases r1 : w = 1
            · subst r1; simp (disch := first | exact mi_217 Hg | omega) only [nI_1, nI_add, pk_mul, pk_sub, nI_leI, nI_ltI, nI_eq, nI_clamp, Option.bind_some, ma_b0, ma_p0, if_true, if_false, mE, mF, mI_lt, mI_le, mI_eq, mI_s, nm_le, nm_lt, mn_le, mn_lt, nm_eq, mn_eq, if_pos, if_neg, ma_Ik, ma_R_pI, ma_R_pW, ma_I_pW, ma_1_pI, ma_1_pW, ma_bit, ma_has, ma_shl, fa_or, fa_and, o7, decide_true, (show (1 : Nat) < 1 + 1 by decide), r0, i10, i01, true_or, or_true, false_or, or_false, true_and, and_true, and_false, false_and, not_true_eq_false, not_false_eq_true, if_true, if_false, eq_self, Bool.true_eq_false]
            · simp (disch := first | exact mi_217 Hg | omega) only [nI_1, nI_add, pk_mul, pk_sub, nI_leI, nI_ltI, nI_eq, nI_clamp, Option.bind_some, ma_b0, ma_p0, if_true, if_false, mE, mF, mI_lt, mI_le, mI_eq, mI_s, nm_le, nm_lt, mn_le, mn_lt, nm_eq, mn_eq, if_pos, if_neg, ma_Ik, ma_R_pI, ma_R_pW, ma_I_pW, ma_1_pI, ma_1_pW, ma_bit, ma_has, ma_shl, fa_or, fa_and, decide_false, (show ¬ w < 1 + 1 by omega), r0, r1, i10, i01, true_or, or_true, false_or, or_false, true_and, and_true, and_false, false_and, not_true_eq_false, not_false_eq_true, if_true, if_false, eq_self, Bool.false_eq_true]
        · subst z
          have ar := (show (2 : Int32) + 6 * (nI 1 - 1) + nI r = nI (2 + r) from by rw [← nI_add]; rfl)
          simp only [(show (nI 1 = (0 : Int32)) = False from eq_false (by decide)), (show (nI 1 = (1 : Int32)) = True from eq_true rfl), f_211_135, ↓reduceIte, (show (1 = 0) = False from eq_false (by decide))]
          by_cases m1 : r < K 0 0 <;> simp (disch := first | exact mi_217 Hg | omega) only [nI_1, nI_add, pk_mul, pk_sub, nI_leI, nI_ltI, nI_eq, nI_clamp, Option.bind_some, ma_b0, ma_p0, if_true, if_false, mE, mF, mI_lt, mI_le, mI_eq, mI_s, nm_le, nm_lt, mn_le, mn_lt, nm_eq, mn_eq, if_pos, if_neg, ma_Ik, ma_R_pI, ma_R_pW, ma_I_pW, ma_1_pI, ma_1_pW, ma_bit, ma_has, ma_shl, fa_or, fa_and, hM.1, f1, ar, o1, m1, i10, i01, true_or, or_true, false_or, or_false, true_and, and_true, and_false, false_and, not_true_eq_false, not_false_eq_true, if_true, if_false, eq_self]
        · subst z
          have ar := (show (2 : Int32) + 6 * (nI 2 - 1) + nI r = nI (8 + r) from by rw [← nI_add]; rfl)
          simp only [(show (nI 2 = (0 : Int32)) = False from eq_false (by decide)), (show (nI 2 = (1 : Int32)) = False from eq_false (by decide)), (show (nI 2 = (2 : Int32)) = True from eq_true rfl), f_211_135, ↓reduceIte, (show (2 = 0) = False from eq_false (by decide)), (show (2 = 1) = False from eq_false (by decide))]
          by_cases m1 : r < K 0 0 <;> simp (disch := first | exact mi_217 Hg | omega) only [nI_1, nI_add, pk_mul, pk_sub, nI_leI, nI_ltI, nI_eq, nI_clamp, Option.bind_some, ma_b0, ma_p0, if_true, if_false, mE, mF, mI_lt, mI_le, mI_eq, mI_s, nm_le, nm_lt, mn_le, mn_lt, nm_eq, mn_eq, if_pos, if_neg, ma_Ik, ma_R_pI, ma_R_pW, ma_I_pW, ma_1_pI, ma_1_pW, ma_bit, ma_has, ma_shl, fa_or, fa_and, hM.1, f1, ar, o2, m1, i10, i01, true_or, or_true, false_or, or_false, true_and, and_true, and_false, false_and, not_true_eq_false, not_false_eq_true, if_true, if_false, eq_self]
        · subst z
          have ar := (show (14 : Int32) + 6 * (nI 3 - 3) + nI r = nI (14 + r) from by rw [← nI_add]; rfl)
          simp only [(show (nI 3 = (0 : Int32)) = False from eq_false (by decide)), (show (nI 3 = (1 : Int32)) = False from eq_false (by decide)), (show (nI 3 = (2 : Int32)) = False from eq_false (by decide)), (show (nI 3 = (3 : Int32)) = True from eq_true rfl), f_211_165, ↓reduceIte, (show (3 = 0) = False from eq_false (by decide)), (show (3 = 1) = False from eq_false (by decide)), (show (3 = 2) = False from eq_false (by decide))]
          by_cases m1 : r < K 0 1 <;> simp (disch := first | exact mi_217 Hg | omega) only [nI_1, nI_add, pk_mul, pk_sub, nI_leI, nI_ltI, nI_eq, nI_clamp, Option.bind_some, ma_b0, ma_p0, if_true, if_false, mE, mF, mI_lt, mI_le, mI_eq, mI_s, nm_le, nm_lt, mn_le, mn_lt, nm_eq, mn_eq, if_pos, if_neg, ma_Ik, ma_R_pI, ma_R_pW, ma_I_pW, ma_1_pI, ma_1_pW, ma_bit, ma_has, ma_shl, fa_or, fa_and, hM.2.1, f1, ar, o3, m1, i10, i01, true_or, or_true, false_or, or_false, true_and, and_true, and_false, false_and, not_true_eq_false, not_false_eq_true, if_true, if_false, eq_self]
        · subst z
          have ar := (show (14 : Int32) + 6 * (nI 4 - 3) + nI r = nI (20 + r) from by rw [← nI_add]; rfl)
          simp only [(show (nI 4 = (0 : Int32)) = False from eq_false (by decide)), (show (nI 4 = (1 : Int32)) = False from eq_false (by decide)), (show (nI 4 = (2 : Int32)) = False from eq_false (by decide)), (show (nI 4 = (3 : Int32)) = False from eq_false (by decide)), (show (nI 4 = (4 : Int32)) = True from eq_true rfl), f_211_165, ↓reduceIte, (show (4 = 0) = False from eq_false (by decide)), (show (4 = 1) = False from eq_false (by decide)), (show (4 = 2) = False from eq_false (by decide)), (show (4 = 3) = False from eq_false (by decide))]
          by_cases m1 : r < K 0 1 <;> simp (disch := first | exact mi_217 Hg | omega) only [nI_1, nI_add, pk_mul, pk_sub, nI_leI, nI_ltI, nI_eq, nI_clamp, Option.bind_some, ma_b0, ma_p0, if_true, if_false, mE, mF, mI_lt, mI_le, mI_eq, mI_s, nm_le, nm_lt, mn_le, mn_lt, nm_eq, mn_eq, if_pos, if_neg, ma_Ik, ma_R_pI, ma_R_pW, ma_I_pW, ma_1_pI, ma_1_pW, ma_bit, ma_has, ma_shl, fa_or, fa_and, hM.2.1, f1, ar, o4, m1, i10, i01, true_or, or_true, false_or, or_false, true_and, and_true, and_false, false_and, not_true_eq_false, not_false_eq_true, if_true, if_false, eq_self]
        · subst z
          have ar := (show (14 : Int32) + 6 * (nI 5 - 3) + nI r = nI (26 + r) from by rw [← nI_add]; rfl)
          simp only [(show (nI 5 = (0 : Int32)) = False from eq_false (by decide)), (show (nI 5 = (1 : Int32)) = False from eq_false (by decide)), (show (nI 5 = (2 : Int32)) = False from eq_false (by decide)), (show (nI 5 = (3 : Int32)) = False from eq_false (by decide)), (show (nI 5 = (4 : Int32)) = False from eq_false (by decide)), (show (nI 5 = (5 : Int32)) = True from eq_true rfl), f_211_165, ↓reduceIte, (show (5 = 0) = False from eq_false (by decide)), (show (5 = 1) = False from eq_false (by decide)), (show (5 = 2) = False from eq_false (by decide)), (show (5 = 3) = False from eq_false (by decide)), (show (5 = 4) = False from eq_false (by decide))]
          by_cases m1 : r < K 0 1 <;> simp (disch := first | exact mi_217 Hg | omega) only [nI_1, nI_add, pk_mul, pk_sub, nI_leI, nI_ltI, nI_eq, nI_clamp, Option.bind_some, ma_b0, ma_p0, if_true, if_false, mE, mF, mI_lt, mI_le, mI_eq, mI_s, nm_le, nm_lt, mn_le, mn_lt, nm_eq, mn_eq, if_pos, if_neg, ma_Ik, ma_R_pI, ma_R_pW, ma_I_pW, ma_1_pI, ma_1_pW, ma_bit, ma_has, ma_shl, fa_or, fa_and, hM.2.1, f1, ar, o5, m1, i10, i01, true_or, or_true, false_or, or_false, true_and, and_true, and_false, false_and, not_true_eq_false, not_false_eq_true, if_true, if_false, eq_self]
        · simp only [(show (nI q = (0 : Int32)) = False from eq_false (fun y => by have := (nI_eq (b := 0) (by omega) (by decide)).mp y; omega)), (show (nI q = (1 : Int32)) = False from eq_false (fun y => by have := (nI_eq (b := 1) (by omega) (by decide)).mp y; omega)), (show (nI q = (2 : Int32)) = False from eq_false (fun y => by have := (nI_eq (b := 2) (by omega) (by decide)).mp y; omega)), (show (nI q = (3 : Int32)) = False from eq_false (fun y => by have := (nI_eq (b := 3) (by omega) (by decide)).mp y; omega)), (show (nI q = (4 : Int32)) = False from eq_false (fun y => by have := (nI_eq (b := 4) (by omega) (by decide)).mp y; omega)), (show (nI q = (5 : Int32)) = False from eq_false (fun y => by have := (nI_eq (b := 5) (by omega) (by decide)).mp y; omega)), ↓reduceIte, (show (q = 0) = False from eq_false (by omega)), (show (q = 1) = False from eq_false (by omega)), (show (q = 2) = False from eq_false (by omega)), (show (q = 3) = False from eq_false (by omega)), (show (q = 4) = False from eq_false (by omega)), (show (q = 5) = False from eq_false (by omega))]
      · unfold sp_lk
        have e4 : w - 10 * (w / 10) = (w - 100) - 10 * ((w - 100) / 10) := by omega
        have p1 : (nI w < (100 : Int32)) = False := eq_false ((not_congr (lD100 hw)).mpr h1)
        have p2 : (nI w - 100) / 10 = nI ((w - 100) / 10) := by rw [lK100 (by omega), lL10 (by omega)]
        have p3 : nI w - nI w / 10 * 10 = nI ((w - 100) - 10 * ((w - 100) / 10)) := by rw [lL10 hw, lJ10, pk_sub (by omega), e4]
        simp only [f_211, if_pos (mi_217 H), e3, Option.bind_some, i10, not_false_eq_true, p1, p2, p3, if_neg h1, ↓reduceIte, lA160 hw]
        by_cases q1 : (w - 100) / 10 < K 0 1 <;> by_cases q2 : (w - 100) - 10 * ((w - 100) / 10) < 6 <;> by_cases q4 : 160 ≤ w <;> first | (exfalso; omega) | simp (disch := first | exact mi_217 Hg | exact mx_232 Hg (by omega) | omega) only [nI_1, nI_add, pk_mul, pk_sub, nI_leI, nI_ltI, nI_eq, nI_clamp, Option.bind_some, ma_b0, ma_p0, if_true, if_false, mE, mF, mI_lt, mI_le, mI_eq, mI_s, nm_le, nm_lt, mn_le, mn_lt, nm_eq, mn_eq, if_pos, if_neg, ma_Ik, ma_R_pI, ma_R_pW, ma_I_pW, ma_1_pI, ma_1_pW, ma_bit, ma_has, ma_shl, fa_or, fa_and, lA6, lB6, lC6, lD6, lE6, lF6, lG6, lH6, lK6, lI6, lJ6, lL6, m_201 B.1 B.2.1 O, ma_at_nI, mr_217_34 Hg, hM.2.2.2.2.2.2, q1, q2, q4, decide_true, decide_false, Bool.true_eq_false, Bool.false_eq_true, i10, i01, true_or, or_true, false_or, or_false, true_and, and_true, and_false, false_and, not_true_eq_false, not_false_eq_true, if_true, if_false, eq_self]
end
