/-! Queries: runoff, quiet. -/
def sp_vo (K : ma_K) (left m : Nat) : Nat := ma_fo (fun c a => if sp_vt K c ∧ sp_pt K c left = m then a + 1 else a) (K 0 1) 0
theorem sp_vo_le {K : ma_K} (O : ma_OK K) (left m : Nat) : sp_vo K left m ≤ 6 := by
  have := ma_fo_inv (g := fun c a => if sp_vt K c ∧ sp_pt K c left = m then a + 1 else a) (P := fun j a => a ≤ j) (a0 := 0) (Nat.le_refl _) (K 0 1) (fun j a hj ha => by split <;> omega)
  have h := O.2.1
  unfold sp_vo; omega
def sp_wkg (K : ma_K) (left m : Nat) (a : Nat × Nat) : Nat × Nat := if left.testBit m ∧ sp_vo K left m ≤ a.2 then (m + 1, sp_vo K left m) else a
def sp_wk (K : ma_K) (left x : Nat) : Nat × Nat := ma_fo (sp_wkg K left) (K 0 0) (0, x)
theorem sp_wk_eq {K : ma_K} (O : ma_OK K) (left : Nat) : (sp_wk K left 7).1 = (sp_wk K left 1000000).1 := by
  have : ∀ n, (ma_fo (sp_wkg K left) n (0, 7) = (0, 7) ∧ ma_fo (sp_wkg K left) n (0, 1000000) = (0, 1000000)) ∨ ma_fo (sp_wkg K left) n (0, 7) = ma_fo (sp_wkg K left) n (0, 1000000) := fun n => by
    induction n with
    | zero => exact .inl ⟨rfl, rfl⟩
    | succ n ih =>
      show (sp_wkg K left n (ma_fo (sp_wkg K left) n (0, 7)) = _ ∧ sp_wkg K left n (ma_fo (sp_wkg K left) n (0, 1000000)) = _) ∨ sp_wkg K left n (ma_fo (sp_wkg K left) n (0, 7)) = sp_wkg K left n (ma_fo (sp_wkg K left) n (0, 1000000))
      rcases ih with ⟨e1, e2⟩ | e
      · rw [e1, e2]
        have := sp_vo_le O left n
        unfold sp_wkg
        by_cases q : left.testBit n = true
        · right
          rw [if_pos ⟨q, by dsimp only; omega⟩, if_pos ⟨q, by dsimp only; omega⟩]
        · left
          rw [if_neg (fun z => q z.1), if_neg (fun z => q z.1)]
          exact ⟨rfl, rfl⟩
      · right; rw [e]
  unfold sp_wk
  rcases this (K 0 0) with ⟨e1, e2⟩ | e
  · rw [e1, e2]
  · rw [e]
theorem sp_wk_inv {K : ma_K} (O : ma_OK K) (left n : Nat) : ((ma_fo (sp_wkg K left) n (0, 7)).1 = 0 → (ma_fo (sp_wkg K left) n (0, 7)).2 = 7 ∧ ∀ m, m < n → left.testBit m = false) ∧ (0 < (ma_fo (sp_wkg K left) n (0, 7)).1 → (ma_fo (sp_wkg K left) n (0, 7)).1 ≤ n ∧ left.testBit ((ma_fo (sp_wkg K left) n (0, 7)).1 - 1) = true) := by
  refine ma_fo_inv (g := sp_wkg K left) (P := fun n a => (a.1 = 0 → a.2 = 7 ∧ ∀ m, m < n → left.testBit m = false) ∧ (0 < a.1 → a.1 ≤ n ∧ left.testBit (a.1 - 1) = true)) (a0 := (0, 7)) ⟨fun _ => ⟨rfl, fun m hm => absurd hm (Nat.not_lt_zero m)⟩, fun z => absurd z (by decide)⟩ n ?_
  intro j a hj ha
  have := sp_vo_le O left j
  unfold sp_wkg
  split
  · rename_i q
    exact ⟨fun z => absurd z (by simp), fun _ => ⟨Nat.le_refl _, by simpa using q.1⟩⟩
  · rename_i q
    refine ⟨fun z => ⟨(ha.1 z).1, fun m hm => ?_⟩, fun z => ⟨by have := (ha.2 z).1; omega, (ha.2 z).2⟩⟩
    by_cases e : m = j
    · subst e
      cases y : left.testBit m
      · rfl
      · exact absurd ⟨y, by have := (ha.1 z).1; omega⟩ q
    · exact (ha.1 z).2 m (by omega)
theorem sp_wk_pos {K : ma_K} (O : ma_OK K) {left : Nat} (h : 0 < ma_cn (fun m => left.testBit m) (K 0 0)) : 0 < (sp_wk K left 7).1 ∧ (sp_wk K left 7).1 ≤ K 0 0 ∧ left.testBit ((sp_wk K left 7).1 - 1) = true := by
  have hi := sp_wk_inv O left (K 0 0)
  rw [show ma_fo (sp_wkg K left) (K 0 0) (0, 7) = sp_wk K left 7 from rfl] at hi
  obtain ⟨m, m1, m2⟩ := ma_cn_ex _ h
  rcases Nat.eq_zero_or_pos (sp_wk K left 7).1 with z | z
  · have := (hi.1 z).2 m m1
    rw [m2] at this; cases this
  · exact ⟨z, hi.2 z⟩
def sp_rog (K : ma_K) (p : Nat × Nat) : Nat × Nat := (sp_cl p.1 ((sp_wk K p.1 7).1 - 1), (sp_wk K p.1 7).1)
def sp_ro (K : ma_K) (k : Nat) : Nat := (ma_fo (fun _ p => sp_rog K p) (k + 1) (2 ^ K 0 0 - 1, 0)).2
def sp_roP (K : ma_K) (j : Nat) (p : Nat × Nat) : Prop := p.1 < 64 ∧ ma_cn (fun m => p.1.testBit m) (K 0 0) + j = K 0 0 ∧ (0 < j → 0 < p.2 ∧ p.2 ≤ K 0 0)
theorem sp_roP0 {K : ma_K} (O : ma_OK K) : sp_roP K 0 (2 ^ K 0 0 - 1, 0) := by
  have h2 := ma_p2 O.1
  refine ⟨by dsimp only; omega, ?_, fun z => absurd z (by decide)⟩
  dsimp only
  have : ∀ n, n ≤ K 0 0 → ma_cn (fun m => (2 ^ K 0 0 - 1).testBit m) n = n := fun n => by
    induction n with
    | zero => intro _; rfl
    | succ n ih =>
      intro hn
      rw [ma_cn_s, ih (by omega), Nat.testBit_two_pow_sub_one, if_pos (by simp; omega)]
  rw [this _ (Nat.le_refl _)]
  rfl
theorem sp_roPs {K : ma_K} (O : ma_OK K) {j : Nat} {p : Nat × Nat} (hj : j < K 0 0) (h : sp_roP K j p) : sp_roP K (j + 1) (sp_rog K p) := by
  have hO := O.1
  obtain ⟨w1, w2, w3⟩ := sp_wk_pos O (left := p.1) (by have := h.2.1; omega)
  have := sp_cl_le p.1 ((sp_wk K p.1 7).1 - 1)
  have h1 := h.1
  refine ⟨?_, ?_, fun _ => ⟨w1, w2⟩⟩
  · show sp_cl p.1 _ < 64; omega
  · have e := ma_cn_rm (q := fun m => p.1.testBit m) (g := (sp_wk K p.1 7).1 - 1) w3 (K 0 0) (by omega)
    have e2 : ma_cn (fun m => (sp_cl p.1 ((sp_wk K p.1 7).1 - 1)).testBit m) (K 0 0) = ma_cn (fun m => p.1.testBit m && decide (m ≠ (sp_wk K p.1 7).1 - 1)) (K 0 0) := ma_cn_cong _ (fun m hm => ma_tb_cl h1 (by omega) (by omega))
    show ma_cn (fun m => (sp_cl p.1 ((sp_wk K p.1 7).1 - 1)).testBit m) (K 0 0) + (j + 1) = K 0 0
    rw [e2]
    have := h.2.1
    omega
section
variable {h : pb_HP} {K : ma_K} {N c : Nat}
theorem c_24 (H : ma_H h) (V : ma_V h c K) (O : ma_OK K) {left : Nat} (hd : left < 64) (hN : 3000 < N) : f_24 N h c (nI left) = some (nI ((sp_wk K left 7).1 - 1)) := by
  have hme := O.1
  have hch := O.2.1
  have hv := sp_vo_le O left
  have hp := fun c => sp_pt_le O c left
  have hi : ∀ (x y : Int32) (m : Nat), m < 6 → pb_wl (f_24_32s N h c (nI left) x y (nI m)) N (0, 0) = some (nI (sp_vo K left m)) := by
    intro x y m hm
    have hl : pb_wl (f_24_32s N h c (nI left) x y (nI m)) N (0, 0) = some (nI (sp_vo K left m)) := by
      have Vc := V.1
      refine ma_lq (fun j a => (nI a, nI j)) (fun c a => if sp_vt K c ∧ sp_pt K c left = m then a + 1 else a) (K 0 1) (by omega) rfl (fun j a hj => ?_) ?_
      · have b := hp j
        by_cases q1 : sp_vt K j = true <;> by_cases q2 : sp_pt K j left = m <;> simp (disch := first | exact wv_is H Vc | exact wv_x1 H Vc (by omega) | exact wv_x2 H Vc (by omega) | exact wv_x3 H Vc (by omega) | exact wv_x4 H Vc (by omega) | exact wv_x5 H Vc (by omega) | exact wv_x6 H Vc (by omega) | omega) only [f_24_32s, nI_1, nI_add, pk_mul, pk_sub, nI_leI, nI_ltI, nI_eq, nI_clamp, Option.bind_some, ma_b0, ma_p0, if_true, if_false, mE, mF, mI_lt, mI_le, mI_eq, mI_s, nm_le, nm_lt, mn_le, mn_lt, nm_eq, mn_eq, if_pos, if_neg, ma_Ik, ma_R_pI, ma_R_pW, ma_I_pW, ma_1_pI, ma_1_pW, ma_bit, ma_has, ma_shl, fa_or, fa_and, lA0, lB0, lC0, lD0, lE0, lF0, lG0, lH0, lA1, lB1, lC1, lD1, lE1, lF1, lG1, lH1, lK1, lA2, lB2, lC2, lD2, lE2, lF2, lG2, lH2, lK2, lI2, lJ2, lL2, lA5, lB5, lC5, lD5, lE5, lF5, lG5, lH5, lK5, lI5, lJ5, lL5, lA6, lB6, lC6, lD6, lE6, lF6, lG6, lH6, lK6, lI6, lJ6, lL6, lA7, lB7, lC7, lD7, lE7, lF7, lG7, lH7, lK7, lI7, lJ7, lL7, lA10, lB10, lC10, lD10, lE10, lF10, lG10, lH10, lK10, lI10, lJ10, lL10, jv_r2 H V.1, jv_r3 H V.1, jv_r4 H V.1, jv_r5 H V.1, jv_r6 H V.1, jv_r7 H V.1, V.2.1, V.2.2.1, V.2.2.2.1, V.2.2.2.2.1, V.2.2.2.2.2.1, V.2.2.2.2.2.2.1, V.2.2.2.2.2.2.2.1, V.2.2.2.2.2.2.2.2, c_7 H V O, c_11 H V O _ _ hN, hj, q1, q2, i10, i01, true_or, or_true, false_or, or_false, true_and, and_true, and_false, false_and, not_true_eq_false, not_false_eq_true, if_true, if_false, eq_self, Bool.false_eq_true]
      · simp (disch := first | exact wv_is H Vc | exact wv_x1 H Vc (by omega) | exact wv_x2 H Vc (by omega) | exact wv_x3 H Vc (by omega) | exact wv_x4 H Vc (by omega) | exact wv_x5 H Vc (by omega) | exact wv_x6 H Vc (by omega) | omega) only [f_24_32s, nI_1, nI_add, pk_mul, pk_sub, nI_leI, nI_ltI, nI_eq, nI_clamp, Option.bind_some, ma_b0, ma_p0, if_true, if_false, mE, mF, mI_lt, mI_le, mI_eq, mI_s, nm_le, nm_lt, mn_le, mn_lt, nm_eq, mn_eq, if_pos, if_neg, ma_Ik, ma_R_pI, ma_R_pW, ma_I_pW, ma_1_pI, ma_1_pW, ma_bit, ma_has, ma_shl, fa_or, fa_and, lA0, lB0, lC0, lD0, lE0, lF0, lG0, lH0, lA1, lB1, lC1, lD1, lE1, lF1, lG1, lH1, lK1, lA2, lB2, lC2, lD2, lE2, lF2, lG2, lH2, lK2, lI2, lJ2, lL2, lA5, lB5, lC5, lD5, lE5, lF5, lG5, lH5, lK5, lI5, lJ5, lL5, lA6, lB6, lC6, lD6, lE6, lF6, lG6, lH6, lK6, lI6, lJ6, lL6, lA7, lB7, lC7, lD7, lE7, lF7, lG7, lH7, lK7, lI7, lJ7, lL7, lA10, lB10, lC10, lD10, lE10, lF10, lG10, lH10, lK10, lI10, lJ10, lL10, jv_r2 H V.1, jv_r3 H V.1, jv_r4 H V.1, jv_r5 H V.1, jv_r6 H V.1, jv_r7 H V.1, V.2.1, V.2.2.1, V.2.2.2.1, V.2.2.2.2.1, V.2.2.2.2.2.1, V.2.2.2.2.2.2.1, V.2.2.2.2.2.2.2.1, V.2.2.2.2.2.2.2.2] <;> rfl
    exact hl
  have hl : pb_wl (f_24_8s N h c (nI left)) N (7, 0, 0) = some (nI ((sp_wk K left 7).1 - 1)) := by
    have Vc := V.1
    refine ma_lp (fun j a => (nI a.2, nI (a.1 - 1), nI j)) (sp_wkg K left) (fun _ a => a.2 ≤ 7) (K 0 0) (a0 := (0, 7)) (by omega) (Nat.le_refl _) rfl (fun j a hj ha => ⟨?_, ?_⟩) ?_
    · have b := hv j
      unfold sp_wkg; split <;> (try dsimp only) <;> omega
    · have b := hv j
      unfold sp_wkg
      by_cases q1 : left.testBit j = true <;> rcases Nat.lt_or_ge a.2 (sp_vo K left j) with q2 | q2 <;> simp (disch := first | exact wv_is H Vc | exact wv_x1 H Vc (by omega) | exact wv_x2 H Vc (by omega) | exact wv_x3 H Vc (by omega) | exact wv_x4 H Vc (by omega) | exact wv_x5 H Vc (by omega) | exact wv_x6 H Vc (by omega) | omega) only [f_24_8s, nI_1, nI_add, pk_mul, pk_sub, nI_leI, nI_ltI, nI_eq, nI_clamp, Option.bind_some, ma_b0, ma_p0, if_true, if_false, mE, mF, mI_lt, mI_le, mI_eq, mI_s, nm_le, nm_lt, mn_le, mn_lt, nm_eq, mn_eq, if_pos, if_neg, ma_Ik, ma_R_pI, ma_R_pW, ma_I_pW, ma_1_pI, ma_1_pW, ma_bit, ma_has, ma_shl, fa_or, fa_and, lA0, lB0, lC0, lD0, lE0, lF0, lG0, lH0, lA1, lB1, lC1, lD1, lE1, lF1, lG1, lH1, lK1, lA2, lB2, lC2, lD2, lE2, lF2, lG2, lH2, lK2, lI2, lJ2, lL2, lA5, lB5, lC5, lD5, lE5, lF5, lG5, lH5, lK5, lI5, lJ5, lL5, lA6, lB6, lC6, lD6, lE6, lF6, lG6, lH6, lK6, lI6, lJ6, lL6, lA7, lB7, lC7, lD7, lE7, lF7, lG7, lH7, lK7, lI7, lJ7, lL7, lA10, lB10, lC10, lD10, lE10, lF10, lG10, lH10, lK10, lI10, lJ10, lL10, jv_r2 H V.1, jv_r3 H V.1, jv_r4 H V.1, jv_r5 H V.1, jv_r6 H V.1, jv_r7 H V.1, V.2.1, V.2.2.1, V.2.2.2.1, V.2.2.2.2.1, V.2.2.2.2.2.1, V.2.2.2.2.2.2.1, V.2.2.2.2.2.2.2.1, V.2.2.2.2.2.2.2.2, hi, q1, Bool.true_eq_false, Bool.false_eq_true, i10, i01, true_or, or_true, false_or, or_false, true_and, and_true, and_false, false_and, not_true_eq_false, not_false_eq_true, if_true, if_false, eq_self, Nat.add_sub_cancel]
    · intro ha
      simp (disch := first | exact wv_is H Vc | exact wv_x1 H Vc (by omega) | exact wv_x2 H Vc (by omega) | exact wv_x3 H Vc (by omega) | exact wv_x4 H Vc (by omega) | exact wv_x5 H Vc (by omega) | exact wv_x6 H Vc (by omega) | omega) only [f_24_8s, nI_1, nI_add, pk_mul, pk_sub, nI_leI, nI_ltI, nI_eq, nI_clamp, Option.bind_some, ma_b0, ma_p0, if_true, if_false, mE, mF, mI_lt, mI_le, mI_eq, mI_s, nm_le, nm_lt, mn_le, mn_lt, nm_eq, mn_eq, if_pos, if_neg, ma_Ik, ma_R_pI, ma_R_pW, ma_I_pW, ma_1_pI, ma_1_pW, ma_bit, ma_has, ma_shl, fa_or, fa_and, lA0, lB0, lC0, lD0, lE0, lF0, lG0, lH0, lA1, lB1, lC1, lD1, lE1, lF1, lG1, lH1, lK1, lA2, lB2, lC2, lD2, lE2, lF2, lG2, lH2, lK2, lI2, lJ2, lL2, lA5, lB5, lC5, lD5, lE5, lF5, lG5, lH5, lK5, lI5, lJ5, lL5, lA6, lB6, lC6, lD6, lE6, lF6, lG6, lH6, lK6, lI6, lJ6, lL6, lA7, lB7, lC7, lD7, lE7, lF7, lG7, lH7, lK7, lI7, lJ7, lL7, lA10, lB10, lC10, lD10, lE10, lF10, lG10, lH10, lK10, lI10, lJ10, lL10, jv_r2 H V.1, jv_r3 H V.1, jv_r4 H V.1, jv_r5 H V.1, jv_r6 H V.1, jv_r7 H V.1, V.2.1, V.2.2.1, V.2.2.2.1, V.2.2.2.2.1, V.2.2.2.2.2.1, V.2.2.2.2.2.2.1, V.2.2.2.2.2.2.2.1, V.2.2.2.2.2.2.2.2] <;> rfl
  simp only [f_24, hl, Option.bind_some]
theorem c_23l (H : ma_H h) (V : ma_V h c K) (O : ma_OK K) {k : Nat} (hk : k < K 0 0) (hN : 3000 < N) : pb_wl (f_23_24s N h c (nI k)) N (nI (2 ^ K 0 0 - 1), -1, 0) = some (mI (sp_ro K k)) := by
  have hme := O.1
  have Vc := V.1
  refine ma_lp (fun j p => (nI p.1, mI p.2, nI j)) (fun _ p => sp_rog K p) (sp_roP K) (k + 1) (a0 := (2 ^ K 0 0 - 1, 0)) (by omega) (sp_roP0 O) rfl (fun j a hj ha => ⟨sp_roPs O (by omega) ha, ?_⟩) ?_
  · obtain ⟨w1, w2, w3⟩ := sp_wk_pos O (left := a.1) (by have := ha.2.1; omega)
    have h1 := ha.1
    have e1 := c_24 (N := N) H V O h1 hN
    have e2 := ma_clr h1 (show (sp_wk K a.1 7).1 - 1 < 6 by omega)
    obtain ⟨z, hz⟩ : ∃ z, (sp_wk K a.1 7).1 = z + 1 := ⟨(sp_wk K a.1 7).1 - 1, by omega⟩
    unfold sp_rog
    rw [hz] at e1 e2 ⊢
    rw [Nat.add_sub_cancel] at e1 e2
    rw [Nat.add_sub_cancel]
    simp (disch := first | exact wv_is H Vc | exact wv_x1 H Vc (by omega) | exact wv_x2 H Vc (by omega) | exact wv_x3 H Vc (by omega) | exact wv_x4 H Vc (by omega) | exact wv_x5 H Vc (by omega) | exact wv_x6 H Vc (by omega) | omega) only [f_23_24s, nI_1, nI_add, pk_mul, pk_sub, nI_leI, nI_ltI, nI_eq, nI_clamp, Option.bind_some, ma_b0, ma_p0, if_true, if_false, mE, mF, mI_lt, mI_le, mI_eq, mI_s, nm_le, nm_lt, mn_le, mn_lt, nm_eq, mn_eq, if_pos, if_neg, ma_Ik, ma_R_pI, ma_R_pW, ma_I_pW, ma_1_pI, ma_1_pW, ma_bit, ma_has, ma_shl, fa_or, fa_and, lA0, lB0, lC0, lD0, lE0, lF0, lG0, lH0, lA1, lB1, lC1, lD1, lE1, lF1, lG1, lH1, lK1, lA2, lB2, lC2, lD2, lE2, lF2, lG2, lH2, lK2, lI2, lJ2, lL2, lA5, lB5, lC5, lD5, lE5, lF5, lG5, lH5, lK5, lI5, lJ5, lL5, lA6, lB6, lC6, lD6, lE6, lF6, lG6, lH6, lK6, lI6, lJ6, lL6, lA7, lB7, lC7, lD7, lE7, lF7, lG7, lH7, lK7, lI7, lJ7, lL7, lA10, lB10, lC10, lD10, lE10, lF10, lG10, lH10, lK10, lI10, lJ10, lL10, jv_r2 H V.1, jv_r3 H V.1, jv_r4 H V.1, jv_r5 H V.1, jv_r6 H V.1, jv_r7 H V.1, V.2.1, V.2.2.1, V.2.2.2.1, V.2.2.2.2.1, V.2.2.2.2.2.1, V.2.2.2.2.2.2.1, V.2.2.2.2.2.2.2.1, V.2.2.2.2.2.2.2.2, e1, e2]
  · intro ha
    simp (disch := omega) only [f_23_24s, nI_1, nI_add, pk_mul, pk_sub, nI_leI, nI_ltI, nI_eq, nI_clamp, Option.bind_some, ma_b0, ma_p0, if_true, if_false, mE, mF, mI_lt, mI_le, mI_eq, mI_s, nm_le, nm_lt, mn_le, mn_lt, nm_eq, mn_eq, if_pos, if_neg, ma_Ik, ma_R_pI, ma_R_pW, ma_I_pW, ma_1_pI, ma_1_pW, ma_bit, ma_has, ma_shl, fa_or, fa_and, lA0, lB0, lC0, lD0, lE0, lF0, lG0, lH0, lA1, lB1, lC1, lD1, lE1, lF1, lG1, lH1, lK1, lA2, lB2, lC2, lD2, lE2, lF2, lG2, lH2, lK2, lI2, lJ2, lL2, lA5, lB5, lC5, lD5, lE5, lF5, lG5, lH5, lK5, lI5, lJ5, lL5, lA6, lB6, lC6, lD6, lE6, lF6, lG6, lH6, lK6, lI6, lJ6, lL6, lA7, lB7, lC7, lD7, lE7, lF7, lG7, lH7, lK7, lI7, lJ7, lL7, lA10, lB10, lC10, lD10, lE10, lF10, lG10, lH10, lK10, lI10, lJ10, lL10] <;> rfl
theorem m_279 (H : ma_H h) (hM : ma_M h K) (O : ma_OK K) {left m : Nat} (hd : left < 64) (hm : m < 6) (hN : 3000 < N) : f_279 N h 217 (nI m) (nI left) = some (nI (sp_vo K left m)) := by
  have hch := O.2.1
  have hp := fun c => sp_pt_le O c left
  have hl : pb_wl (f_279_5s N h 217 (nI m) (nI left)) N (0, 0) = some (nI (sp_vo K left m)) := by
    refine ma_lq (fun j a => (nI a, nI j)) (fun c a => if sp_vt K c ∧ sp_pt K c left = m then a + 1 else a) (K 0 1) (by omega) rfl (fun j a hj => ?_) ?_
    · have b := hp j
      by_cases q1 : sp_vt K j = true <;> by_cases q2 : sp_pt K j left = m <;> simp (disch := first | exact mi_217 H | omega) only [f_279_5s, nI_1, nI_add, pk_mul, pk_sub, nI_leI, nI_ltI, nI_eq, nI_clamp, Option.bind_some, ma_b0, ma_p0, if_true, if_false, mE, mF, mI_lt, mI_le, mI_eq, mI_s, nm_le, nm_lt, mn_le, mn_lt, nm_eq, mn_eq, if_pos, if_neg, ma_Ik, ma_R_pI, ma_R_pW, ma_I_pW, ma_1_pI, ma_1_pW, ma_bit, ma_has, ma_shl, fa_or, fa_and, lA0, lB0, lC0, lD0, lE0, lF0, lG0, lH0, lA1, lB1, lC1, lD1, lE1, lF1, lG1, lH1, lK1, lA2, lB2, lC2, lD2, lE2, lF2, lG2, lH2, lK2, lI2, lJ2, lL2, lA5, lB5, lC5, lD5, lE5, lF5, lG5, lH5, lK5, lI5, lJ5, lL5, lA6, lB6, lC6, lD6, lE6, lF6, lG6, lH6, lK6, lI6, lJ6, lL6, lA7, lB7, lC7, lD7, lE7, lF7, lG7, lH7, lK7, lI7, lJ7, lL7, lA10, lB10, lC10, lD10, lE10, lF10, lG10, lH10, lK10, lI10, lJ10, lL10, mr_217_30 H, mr_217_31 H, mr_217_32 H, mr_217_33 H, mr_217_34 H, mr_217_35 H, hM.1, hM.2.1, hM.2.2.1, hM.2.2.2.1, hM.2.2.2.2.1, hM.2.2.2.2.2.1, hM.2.2.2.2.2.2, m_202 H hM O, m_206 H hM O _ _ hN, q1, q2, i10, i01, true_or, or_true, false_or, or_false, true_and, and_true, and_false, false_and, not_true_eq_false, not_false_eq_true, if_true, if_false, eq_self, Bool.true_eq_false, Bool.false_eq_true]
    · simp (disch := first | exact mi_217 H | omega) only [f_279_5s, nI_1, nI_add, pk_mul, pk_sub, nI_leI, nI_ltI, nI_eq, nI_clamp, Option.bind_some, ma_b0, ma_p0, if_true, if_false, mE, mF, mI_lt, mI_le, mI_eq, mI_s, nm_le, nm_lt, mn_le, mn_lt, nm_eq, mn_eq, if_pos, if_neg, ma_Ik, ma_R_pI, ma_R_pW, ma_I_pW, ma_1_pI, ma_1_pW, ma_bit, ma_has, ma_shl, fa_or, fa_and, lA0, lB0, lC0, lD0, lE0, lF0, lG0, lH0, lA1, lB1, lC1, lD1, lE1, lF1, lG1, lH1, lK1, lA2, lB2, lC2, lD2, lE2, lF2, lG2, lH2, lK2, lI2, lJ2, lL2, lA5, lB5, lC5, lD5, lE5, lF5, lG5, lH5, lK5, lI5, lJ5, lL5, lA6, lB6, lC6, lD6, lE6, lF6, lG6, lH6, lK6, lI6, lJ6, lL6, lA7, lB7, lC7, lD7, lE7, lF7, lG7, lH7, lK7, lI7, lJ7, lL7, lA10, lB10, lC10, lD10, lE10, lF10, lG10, lH10, lK10, lI10, lJ10, lL10, mr_217_30 H, mr_217_31 H, mr_217_32 H, mr_217_33 H, mr_217_34 H, mr_217_35 H, hM.1, hM.2.1, hM.2.2.1, hM.2.2.2.1, hM.2.2.2.2.1, hM.2.2.2.2.2.1, hM.2.2.2.2.2.2] <;> rfl
  simp only [f_279, hl, Option.bind_some]
theorem m_280l (H : ma_H h) (hM : ma_M h K) (O : ma_OK K) {k : Nat} (hk : k < K 0 0) (hN : 3000 < N) : pb_wl (f_280_38s N h 217 (nI k)) N (nI (2 ^ K 0 0 - 1), -1, 0) = some (mI (sp_ro K k)) := by
  have hme := O.1
  have hi : ∀ (x y : Int32) (left : Nat), left < 64 → pb_wl (f_280_55s N h 217 x (nI left) y) N (-1, 1000000, 0) = some (mI (sp_wk K left 7).1) := by
    intro x y left hd
    have hv := sp_vo_le O left
    rw [sp_wk_eq O left]
    refine ma_lp (fun j a => (mI a.1, nI a.2, nI j)) (sp_wkg K left) (fun _ a => a.2 ≤ 1000000) (K 0 0) (a0 := (0, 1000000)) (by omega) (Nat.le_refl _) rfl (fun j a hj ha => ⟨?_, ?_⟩) ?_
    · have b := hv j
      unfold sp_wkg; split <;> (try dsimp only) <;> omega
    · have b := hv j
      unfold sp_wkg
      have e := m_279 (N := N) H hM O hd (show j < 6 by omega) hN
      have x1 : ¬ (1000000 : Int32) ≤ nI (sp_vo K left j) := (not_congr (lA1000000 (by omega))).mpr (by omega)
      have x2 : (nI a.2 < (1000000 : Int32)) ↔ a.2 < 1000000 := lD1000000 (by omega)
      have x3 : (1000000 : Int32) ≤ 1000000 := by decide
      by_cases q1 : left.testBit j = true <;> rcases Nat.lt_or_ge a.2 (sp_vo K left j) with q2 | q2 <;> simp (disch := first | exact mi_217 H | omega) only [f_280_55s, f_280_86, nI_1, nI_add, pk_mul, pk_sub, nI_leI, nI_ltI, nI_eq, nI_clamp, Option.bind_some, ma_b0, ma_p0, if_true, if_false, mE, mF, mI_lt, mI_le, mI_eq, mI_s, nm_le, nm_lt, mn_le, mn_lt, nm_eq, mn_eq, if_pos, if_neg, ma_Ik, ma_R_pI, ma_R_pW, ma_I_pW, ma_1_pI, ma_1_pW, ma_bit, ma_has, ma_shl, fa_or, fa_and, lA0, lB0, lC0, lD0, lE0, lF0, lG0, lH0, lA1, lB1, lC1, lD1, lE1, lF1, lG1, lH1, lK1, lA2, lB2, lC2, lD2, lE2, lF2, lG2, lH2, lK2, lI2, lJ2, lL2, lA5, lB5, lC5, lD5, lE5, lF5, lG5, lH5, lK5, lI5, lJ5, lL5, lA6, lB6, lC6, lD6, lE6, lF6, lG6, lH6, lK6, lI6, lJ6, lL6, lA7, lB7, lC7, lD7, lE7, lF7, lG7, lH7, lK7, lI7, lJ7, lL7, lA10, lB10, lC10, lD10, lE10, lF10, lG10, lH10, lK10, lI10, lJ10, lL10, mr_217_30 H, mr_217_31 H, mr_217_32 H, mr_217_33 H, mr_217_34 H, mr_217_35 H, hM.1, hM.2.1, hM.2.2.1, hM.2.2.2.1, hM.2.2.2.2.1, hM.2.2.2.2.2.1, hM.2.2.2.2.2.2, e, q1, x1, x2, x3, Bool.true_eq_false, Bool.false_eq_true, i10, i01, true_or, or_true, false_or, or_false, true_and, and_true, and_false, false_and, not_true_eq_false, not_false_eq_true, if_true, if_false, eq_self, ite_self]
    · intro ha
      simp (disch := first | exact mi_217 H | omega) only [f_280_55s, nI_1, nI_add, pk_mul, pk_sub, nI_leI, nI_ltI, nI_eq, nI_clamp, Option.bind_some, ma_b0, ma_p0, if_true, if_false, mE, mF, mI_lt, mI_le, mI_eq, mI_s, nm_le, nm_lt, mn_le, mn_lt, nm_eq, mn_eq, if_pos, if_neg, ma_Ik, ma_R_pI, ma_R_pW, ma_I_pW, ma_1_pI, ma_1_pW, ma_bit, ma_has, ma_shl, fa_or, fa_and, lA0, lB0, lC0, lD0, lE0, lF0, lG0, lH0, lA1, lB1, lC1, lD1, lE1, lF1, lG1, lH1, lK1, lA2, lB2, lC2, lD2, lE2, lF2, lG2, lH2, lK2, lI2, lJ2, lL2, lA5, lB5, lC5, lD5, lE5, lF5, lG5, lH5, lK5, lI5, lJ5, lL5, lA6, lB6, lC6, lD6, lE6, lF6, lG6, lH6, lK6, lI6, lJ6, lL6, lA7, lB7, lC7, lD7, lE7, lF7, lG7, lH7, lK7, lI7, lJ7, lL7, lA10, lB10, lC10, lD10, lE10, lF10, lG10, lH10, lK10, lI10, lJ10, lL10, mr_217_30 H, mr_217_31 H, mr_217_32 H, mr_217_33 H, mr_217_34 H, mr_217_35 H, hM.1, hM.2.1, hM.2.2.1, hM.2.2.2.1, hM.2.2.2.2.1, hM.2.2.2.2.2.1, hM.2.2.2.2.2.2] <;> rfl
  refine ma_lp (fun j p => (nI p.1, mI p.2, nI j)) (fun _ p => sp_rog K p) (sp_roP K) (k + 1) (a0 := (2 ^ K 0 0 - 1, 0)) (by omega) (sp_roP0 O) rfl (fun j a hj ha => ⟨sp_roPs O (by omega) ha, ?_⟩) ?_
  · obtain ⟨w1, w2, w3⟩ := sp_wk_pos O (left := a.1) (by have := ha.2.1; omega)
    have h1 := ha.1
    have e1 := hi (nI k) (nI j) a.1 h1
    have e2 := ma_clr h1 (show (sp_wk K a.1 7).1 - 1 < 6 by omega)
    obtain ⟨z, hz⟩ : ∃ z, (sp_wk K a.1 7).1 = z + 1 := ⟨(sp_wk K a.1 7).1 - 1, by omega⟩
    unfold sp_rog
    rw [hz] at e1 e2 ⊢
    rw [Nat.add_sub_cancel] at e2
    rw [mI_s] at e1
    rw [Nat.add_sub_cancel]
    simp (disch := omega) only [f_280_38s, nI_1, nI_add, pk_mul, pk_sub, nI_leI, nI_ltI, nI_eq, nI_clamp, Option.bind_some, ma_b0, ma_p0, if_true, if_false, mE, mF, mI_lt, mI_le, mI_eq, mI_s, nm_le, nm_lt, mn_le, mn_lt, nm_eq, mn_eq, if_pos, if_neg, ma_Ik, ma_R_pI, ma_R_pW, ma_I_pW, ma_1_pI, ma_1_pW, ma_bit, ma_has, ma_shl, fa_or, fa_and, lA0, lB0, lC0, lD0, lE0, lF0, lG0, lH0, lA1, lB1, lC1, lD1, lE1, lF1, lG1, lH1, lK1, lA2, lB2, lC2, lD2, lE2, lF2, lG2, lH2, lK2, lI2, lJ2, lL2, lA5, lB5, lC5, lD5, lE5, lF5, lG5, lH5, lK5, lI5, lJ5, lL5, lA6, lB6, lC6, lD6, lE6, lF6, lG6, lH6, lK6, lI6, lJ6, lL6, lA7, lB7, lC7, lD7, lE7, lF7, lG7, lH7, lK7, lI7, lJ7, lL7, lA10, lB10, lC10, lD10, lE10, lF10, lG10, lH10, lK10, lI10, lJ10, lL10, e1, e2]
  · intro ha
    simp (disch := omega) only [f_280_38s, nI_1, nI_add, pk_mul, pk_sub, nI_leI, nI_ltI, nI_eq, nI_clamp, Option.bind_some, ma_b0, ma_p0, if_true, if_false, mE, mF, mI_lt, mI_le, mI_eq, mI_s, nm_le, nm_lt, mn_le, mn_lt, nm_eq, mn_eq, if_pos, if_neg, ma_Ik, ma_R_pI, ma_R_pW, ma_I_pW, ma_1_pI, ma_1_pW, ma_bit, ma_has, ma_shl, fa_or, fa_and, lA0, lB0, lC0, lD0, lE0, lF0, lG0, lH0, lA1, lB1, lC1, lD1, lE1, lF1, lG1, lH1, lK1, lA2, lB2, lC2, lD2, lE2, lF2, lG2, lH2, lK2, lI2, lJ2, lL2, lA5, lB5, lC5, lD5, lE5, lF5, lG5, lH5, lK5, lI5, lJ5, lL5, lA6, lB6, lC6, lD6, lE6, lF6, lG6, lH6, lK6, lI6, lJ6, lL6, lA7, lB7, lC7, lD7, lE7, lF7, lG7, lH7, lK7, lI7, lJ7, lL7, lA10, lB10, lC10, lD10, lE10, lF10, lG10, lH10, lK10, lI10, lJ10, lL10] <;> rfl
end
section
variable {h : pb_HP} {N : Nat}
theorem q_runoff (I : ma_INV h) (hN : 3000 < N) (x y : Int32) : ma_Q0 h (f_151 N h 0 x y) (fun g => f_280 N g 217 x y) := by
  have H := I.1
  have hq : ma_q h (pb_pI h 217 0 0) := ma_q_pI (ma_q_r h) (by decide) 0 0
  rcases ma_W I hN x with ⟨e1, e2⟩ | ⟨c, K, e1, hc, O, OT, V, e2⟩
  · exact ⟨-1, pb_pI h 217 0 0, by simp only [f_151, if_pos (mi_0 H), mr_0_0 H, Option.bind_some, if_pos (mi_1 H), e1], by simp only [f_280, if_pos (mi_217 H), e2 _ hq, Option.bind_some, i10, i01, true_or, or_true, false_or, or_false, true_and, and_true, and_false, false_and, not_true_eq_false, not_false_eq_true, if_true, if_false, eq_self, ma_b0, Bool.false_eq_true, Bool.true_eq_false, reduceCtorEq], hq⟩
  · have hO := O.1
    cases qm : ma_at y (K 0 0)
    · obtain ⟨g, e3, q3, B⟩ := e2 _ hq
      exact ⟨-1, g, by simp only [f_151, if_pos (mi_0 H), mr_0_0 H, Option.bind_some, if_pos (mi_1 H), e1, if_pos (wv_is H V.1), f_23, c_3 H V, if_pos (wv_is H V.1), qm, i10, i01, true_or, or_true, false_or, or_false, true_and, and_true, and_false, false_and, not_true_eq_false, not_false_eq_true, if_true, if_false, eq_self, ma_b0, Bool.false_eq_true, Bool.true_eq_false, reduceCtorEq], by simp only [f_280, if_pos (mi_217 H), e3, Option.bind_some, if_pos (mi_217 B.1), m_200 B.1 B.2.1 O, qm, i10, i01, true_or, or_true, false_or, or_false, true_and, and_true, and_false, false_and, not_true_eq_false, not_false_eq_true, if_true, if_false, eq_self, ma_b0, Bool.false_eq_true, Bool.true_eq_false, reduceCtorEq], ma_q_t hq q3⟩
    · obtain ⟨k, hk2, rfl⟩ := ma_at_ex (by omega) qm
      obtain ⟨g, e3, q3, B⟩ := e2 _ hq
      have z1 := c_23l (N := N) H V O hk2 hN
      have z2 := m_280l (N := N) B.1 B.2.1 O hk2 hN
      have y1 : (1 : Int32) <<< (nI (K 0 0) &&& 31) - 1 = nI (2 ^ K 0 0 - 1) := by
        rw [ma_shl (by omega)]
        exact pk_sub (b := 1) (Nat.two_pow_pos _)
      exact ⟨mI (sp_ro K k), g, by simp only [f_151, if_pos (mi_0 H), mr_0_0 H, Option.bind_some, if_pos (mi_1 H), e1, if_pos (wv_is H V.1), f_23, c_3 H V, qm, V.2.1, y1, z1, i10, i01, true_or, or_true, false_or, or_false, true_and, and_true, and_false, false_and, not_true_eq_false, not_false_eq_true, if_true, if_false, eq_self, ma_b0, Bool.false_eq_true, Bool.true_eq_false, reduceCtorEq], by simp only [f_280, if_pos (mi_217 H), e3, Option.bind_some, if_pos (mi_217 B.1), m_200 B.1 B.2.1 O, qm, B.2.1.1, y1, z2, i10, i01, true_or, or_true, false_or, or_false, true_and, and_true, and_false, false_and, not_true_eq_false, not_false_eq_true, if_true, if_false, eq_self, ma_b0, Bool.false_eq_true, Bool.true_eq_false, reduceCtorEq], ma_q_t hq q3⟩
theorem q_quiet (I : ma_INV h) (hN : 3000 < N) (x y z u t : Int32) : ma_Q0 h (f_138 N h 0 x y z u t) (fun g => f_242 N g 217 x y z u t) := by
  have H := I.1
  have hq : ma_q h (pb_pI h 217 0 0) := ma_q_pI (ma_q_r h) (by decide) 0 0
  by_cases z1 : z < 1
  · have zz : f_168 z 1 3 = some 0 := by unfold f_168; rw [if_pos z1]
    refine ⟨-1, pb_pI h 217 0 0, ?_, by simp only [f_242, if_pos (mi_217 H), zz, Option.bind_some, i10, i01, true_or, or_true, false_or, or_false, true_and, and_true, and_false, false_and, not_true_eq_false, not_false_eq_true, if_true, if_false, eq_self, ma_b0, Bool.false_eq_true, Bool.true_eq_false, reduceCtorEq], hq⟩
    rcases ma_W I hN x with ⟨e1, e2⟩ | ⟨c, K, e1, hc, O, OT, V, e2⟩
    · simp only [f_138, if_pos (mi_0 H), mr_0_0 H, Option.bind_some, if_pos (mi_1 H), e1]
    · simp only [f_138, if_pos (mi_0 H), mr_0_0 H, Option.bind_some, if_pos (mi_1 H), e1, if_pos (wv_is H V.1), c_3 H V, if_pos z1, i10, i01, true_or, or_true, false_or, or_false, true_and, and_true, and_false, false_and, not_true_eq_false, not_false_eq_true, if_true, if_false, eq_self, ma_b0, Bool.false_eq_true, Bool.true_eq_false, reduceCtorEq]
      split <;> rfl
  · by_cases z2 : z ≤ 3
    · have hz : ∃ n, 1 ≤ n ∧ n ≤ 3 ∧ z = nI n := by
        have hz0 : ¬ z < 0 := fun q => z1 (by
          rw [Int32.lt_iff_toInt_lt] at q ⊢
          have k1 : (0 : Int32).toInt = 0 := by decide
          have k2 : (1 : Int32).toInt = 1 := by decide
          omega)
        obtain ⟨n, hn, rfl⟩ := nI_of2 (M := 3) (n := 3) (by decide) hz0 z2
        exact ⟨n, by rw [lD1 (by omega)] at z1; omega, hn, rfl⟩
      obtain ⟨n, n1, n3, rfl⟩ := hz
      have zz : f_168 (nI n) 1 3 = some 1 := by
        have := ma_in (a := n) (b := 1) (c := 3) (by omega) (by decide) (by decide)
        rw [if_pos (by omega)] at this
        exact this
      rcases ma_W I hN x with ⟨e1, e2⟩ | ⟨c, K, e1, hc, O, OT, V, e2⟩
      · exact ⟨-1, pb_pI h 217 0 0, by simp only [f_138, if_pos (mi_0 H), mr_0_0 H, Option.bind_some, if_pos (mi_1 H), e1], by simp only [f_242, if_pos (mi_217 H), zz, e2 _ hq, Option.bind_some, i10, i01, true_or, or_true, false_or, or_false, true_and, and_true, and_false, false_and, not_true_eq_false, not_false_eq_true, if_true, if_false, eq_self, ma_b0, Bool.false_eq_true, Bool.true_eq_false, reduceCtorEq], hq⟩
      · have hO := O.1
        cases qm : ma_at y (K 0 0)
        · obtain ⟨g, e3, q3, B⟩ := e2 _ hq
          exact ⟨-1, g, by simp only [f_138, if_pos (mi_0 H), mr_0_0 H, Option.bind_some, if_pos (mi_1 H), e1, if_pos (wv_is H V.1), c_3 H V, qm, i10, i01, true_or, or_true, false_or, or_false, true_and, and_true, and_false, false_and, not_true_eq_false, not_false_eq_true, if_true, if_false, eq_self, ma_b0, Bool.false_eq_true, Bool.true_eq_false, reduceCtorEq, zz], by simp only [f_242, if_pos (mi_217 H), e3, Option.bind_some, if_pos (mi_217 B.1), m_200 B.1 B.2.1 O, qm, i10, i01, true_or, or_true, false_or, or_false, true_and, and_true, and_false, false_and, not_true_eq_false, not_false_eq_true, if_true, if_false, eq_self, ma_b0, Bool.false_eq_true, Bool.true_eq_false, reduceCtorEq, zz], ma_q_t hq q3⟩
        · obtain ⟨m, hm, rfl⟩ := ma_at_ex (by omega) qm
          obtain ⟨g, e3, q3, B⟩ := e2 _ hq
          have bm := O.2.2.1 m
          have k1 := V.2.2.2.1 m hm
          have k2 := (m_of B.1 B.2.2.1).1 m (by omega)
          have k3 : (10 : Int32) - nI (K 1 m) = nI (10 - K 1 m) := pk_sub (a := 10) (by omega)
          have k4 : Int32.toInt64 (nI (10 - K 1 m)) = lN (10 - K 1 m) := nI_l (by omega)
          have k5 : (10 : Int64) - Int32.toInt64 (nI (K 1 m)) = lN (10 - K 1 m) := by rw [nI_l (by omega)]; exact lN_sub (a := 10) (by omega)
          have f1 := c_8 (N := N) H V O hN
          have f2 := fun w => m_242l (N := N) B.1 B.2.1 O hN (nI m) (nI n) w t
          have f3 := sp_fi_le O
          obtain ⟨F, hF⟩ : ∃ F, F = sp_fi K := ⟨_, rfl⟩
          rw [← hF] at f1 f3
          simp only [← hF] at f2
          obtain ⟨d, hd⟩ : ∃ d, d = 10 - K 1 m := ⟨_, rfl⟩
          rw [← hd] at k3 k4 k5
          have p1 : f_166 N 10 (nI n) = some (lN (10 ^ n)) := c_166 (x := 10) (by omega) hN
          have p2 : f_166 N 10 (nI F) = some (lN (10 ^ F)) := c_166 (x := 10) (by omega) hN
          have p3 := c_166 (N := N) (x := d) (n := n) (by omega) hN
          have p4 := c_166 (N := N) (x := d) (n := F) (by omega) hN
          have r1 : f_234 N 10 (nI n) = some (lN (10 ^ n)) := m_234 (x := 10) (by omega) hN
          have r2 : f_234 N 10 (nI F) = some (lN (10 ^ F)) := m_234 (x := 10) (by omega) hN
          have r3 := m_234 (N := N) (x := d) (n := n) (by omega) hN
          have r4 := m_234 (N := N) (x := d) (n := F) (by omega) hN
          have hnF : n * F ≤ 18 := Nat.le_trans (Nat.mul_le_mul n3 f3) (by decide)
          have hT : 10 ^ (n * F) ≤ 2000000000000000000 := Nat.le_trans (Nat.pow_le_pow_right (by decide) hnF) (by decide)
          have r5 : f_234 N 10 (nI n * nI F) = some (lN (10 ^ (n * F))) := by rw [pk_mul]; exact m_234 (x := 10) (by omega) hN
          have hdn : d ^ n ≤ 10 ^ n := Nat.pow_le_pow_left (by omega) n
          have p5 : lN (10 ^ n) - lN (d ^ n) = lN (10 ^ n - d ^ n) := lN_sub hdn
          have p6 := c_166 (N := N) (x := 10 ^ n - d ^ n) (n := F) (by omega) hN
          have p7 := c_166 (N := N) (x := 10 ^ n) (n := F) (by omega) hN
          have r6 := m_234 (N := N) (x := 10 ^ n - d ^ n) (n := F) (by omega) hN
          have e10 : (10 ^ n) ^ F = 10 ^ (n * F) := (Nat.pow_mul 10 n F).symm
          rw [e10] at p7
          have hF1 : 10 ^ F ≤ 2000000000000000000 := Nat.le_trans (Nat.pow_le_pow_right (by decide) f3) (by decide)
          by_cases qu : u = 0
          · have hb : d ^ F ≤ 10 ^ F := Nat.pow_le_pow_left (by omega) F
            obtain ⟨r, s1, s2⟩ := ma_frac (a := 10 ^ F) (b := d ^ F) (N := N) (Nat.pow_pos (by decide)) hF1 (by omega) t hN
            exact ⟨r, g, by simp only [f_138, if_pos (mi_0 H), mr_0_0 H, Option.bind_some, if_pos (mi_1 H), e1, if_pos (wv_is H V.1), c_3 H V, qm, if_neg z1, if_pos z2, jv_r2 H V.1, if_pos (wv_x1 H V.1 (show m < 6 by omega)), nI_clamp (show m < 2 ^ 31 by omega), k1, if_pos qu, k3, f_138_68, f_138_91, f1, k4, p4, p2, s1, i10, i01, true_or, or_true, false_or, or_false, true_and, and_true, and_false, false_and, not_true_eq_false, not_false_eq_true, if_true, if_false, eq_self, ma_b0, Bool.false_eq_true, Bool.true_eq_false, reduceCtorEq], by simp only [f_242, if_pos (mi_217 H), zz, e3, Option.bind_some, if_pos (mi_217 B.1), m_200 B.1 B.2.1 O, qm, f2, lG2, k2, qu, k5, r4, r2, s2, i10, i01, true_or, or_true, false_or, or_false, true_and, and_true, and_false, false_and, not_true_eq_false, not_false_eq_true, if_true, if_false, eq_self, ma_b0, Bool.false_eq_true, Bool.true_eq_false, reduceCtorEq], ma_q_t hq q3⟩
          · have hb : (10 ^ n - d ^ n) ^ F ≤ 10 ^ (n * F) := by rw [← e10]; exact Nat.pow_le_pow_left (by omega) F
            obtain ⟨r, s1, s2⟩ := ma_frac (a := 10 ^ (n * F)) (b := (10 ^ n - d ^ n) ^ F) (N := N) (Nat.pow_pos (by decide)) hT (by omega) t hN
            exact ⟨r, g, by simp only [f_138, if_pos (mi_0 H), mr_0_0 H, Option.bind_some, if_pos (mi_1 H), e1, if_pos (wv_is H V.1), c_3 H V, qm, if_neg z1, if_pos z2, jv_r2 H V.1, if_pos (wv_x1 H V.1 (show m < 6 by omega)), nI_clamp (show m < 2 ^ 31 by omega), k1, if_neg qu, k3, p1, f_138_68, f_138_91, f1, k4, p3, p5, p6, p7, s1, i10, i01, true_or, or_true, false_or, or_false, true_and, and_true, and_false, false_and, not_true_eq_false, not_false_eq_true, if_true, if_false, eq_self, ma_b0, Bool.false_eq_true, Bool.true_eq_false, reduceCtorEq], by simp only [f_242, if_pos (mi_217 H), zz, e3, Option.bind_some, if_pos (mi_217 B.1), m_200 B.1 B.2.1 O, qm, f2, lG2, k2, qu, k5, r1, r3, p5, r6, r5, s2, i10, i01, true_or, or_true, false_or, or_false, true_and, and_true, and_false, false_and, not_true_eq_false, not_false_eq_true, if_true, if_false, eq_self, ma_b0, Bool.false_eq_true, Bool.true_eq_false, reduceCtorEq], ma_q_t hq q3⟩
    · have zz : f_168 z 1 3 = some 0 := by
        unfold f_168
        rw [if_neg z1, if_pos (by rw [Int32.not_le] at z2; exact z2)]
      refine ⟨-1, pb_pI h 217 0 0, ?_, by simp only [f_242, if_pos (mi_217 H), zz, Option.bind_some, i10, i01, true_or, or_true, false_or, or_false, true_and, and_true, and_false, false_and, not_true_eq_false, not_false_eq_true, if_true, if_false, eq_self, ma_b0, Bool.false_eq_true, Bool.true_eq_false, reduceCtorEq], hq⟩
      rcases ma_W I hN x with ⟨e1, e2⟩ | ⟨c, K, e1, hc, O, OT, V, e2⟩
      · simp only [f_138, if_pos (mi_0 H), mr_0_0 H, Option.bind_some, if_pos (mi_1 H), e1]
      · simp only [f_138, if_pos (mi_0 H), mr_0_0 H, Option.bind_some, if_pos (mi_1 H), e1, if_pos (wv_is H V.1), c_3 H V, if_neg z1, if_neg z2, i10, i01, true_or, or_true, false_or, or_false, true_and, and_true, and_false, false_and, not_true_eq_false, not_false_eq_true, if_true, if_false, eq_self, ma_b0, Bool.false_eq_true, Bool.true_eq_false, reduceCtorEq]
        split <;> rfl
end
