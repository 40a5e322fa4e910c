/-! Queries: power, gang, freed, liked, unlike, quiet, county. -/
theorem sp_dc_le (pk : Nat → Nat) (w c : Nat) : sp_dc pk w c ≤ 64 := ma_fo_inv (g := fun s a => if s &&& w = s ∧ pk s ≠ pk (s ||| 2 ^ c) then a + 1 else a) (P := fun j a => a ≤ j) (a0 := 0) (Nat.le_refl _) 64 (fun j a hj ha => by split <;> omega)
def sp_fr (K : ma_K) (m : Nat) : Nat := ma_fo (fun c a => if 0 < K 4 c ∧ K 4 c ≤ 10 * K 1 m then a ||| 2 ^ c else a) (K 0 1) 0
def sp_fi (K : ma_K) : Nat := ma_fo (fun c a => if 0 < K 4 c then a + 1 else a) (K 0 1) 0
theorem sp_fi_le {K : ma_K} (O : ma_OK K) : sp_fi K ≤ 6 := by
  have := ma_fo_inv (g := fun c a => if 0 < K 4 c then a + 1 else a) (P := fun j a => a ≤ j) (a0 := 0) (Nat.le_refl _) (K 0 1) (fun j a hj ha => by split <;> omega)
  have h := O.2.1
  unfold sp_fi; omega
theorem ma_ifadd (b : Bool) (a x : Nat) : (if b then a + x else a) = a + (if b then x else 0) := by cases b <;> rfl
theorem ma_ifadd2 (b : Bool) (x y : Nat) : (if b then x + y else 0) = (if b then x else 0) + (if b then y else 0) := by cases b <;> rfl
theorem ma_exch (s : Nat) (F : Nat → Nat → Nat) : ∀ n, ma_fo (fun t a => if s.testBit t then a + ma_fo (fun c b => b + F c t) n 0 else a) 6 0 = ma_fo (fun c a => a + ma_fo (fun t b => if s.testBit t then b + F c t else b) 6 0) n 0
  | 0 => by simp [ma_fo]
  | n + 1 => by
    have ih := ma_exch s F n
    show _ = ma_fo (fun c a => a + ma_fo (fun t b => if s.testBit t then b + F c t else b) 6 0) n 0 + ma_fo (fun t b => if s.testBit t then b + F n t else b) 6 0
    rw [← ih]
    have e : ∀ t, ma_fo (fun c b => b + F c t) (n + 1) 0 = ma_fo (fun c b => b + F c t) n 0 + F n t := fun t => rfl
    simp only [e]
    simp only [show ∀ g : Nat → Nat → Nat, ma_fo g 6 0 = g 5 (g 4 (g 3 (g 2 (g 1 (g 0 0))))) from fun g => rfl]
    simp only [ma_ifadd, ma_ifadd2]
    omega
theorem ma_neg (a b : Int32) : 0 - (a - b) = b - a := by
  rw [Int32.zero_sub, Int32.neg_sub]
theorem ma_neg2 (a b : Int32) : -(a - b) = b - a := Int32.neg_sub
theorem ma_sge {u v : Nat} (hu : u < 2 ^ 30) (hv : v < 2 ^ 30) : (0 : Int32) ≤ nI u - nI v ↔ v ≤ u := by
  rw [Int32.le_iff_toInt_le, pk_sub_toInt hu hv]
  show (0 : Int) ≤ _ ↔ _
  omega
def sp_un (K : ma_K) (a b : Nat) : Nat := ma_fo (fun t s => s + (if K 6 (6 * b + t) ≤ K 6 (6 * a + t) then K 6 (6 * a + t) - K 6 (6 * b + t) else K 6 (6 * b + t) - K 6 (6 * a + t))) 6 0
section
variable {h : pb_HP} {K : ma_K} {N c : Nat}
theorem c_8 (H : ma_H h) (V : ma_V h c K) (O : ma_OK K) (hN : 3000 < N) : f_8 N h c = some (nI (sp_fi K)) := by
  have hch := O.2.1
  have hl : pb_wl (f_8_4s N h c) N (0, 0) = some (nI (sp_fi K)) := by
    have Vc := V.1
    refine ma_lq (fun j a => (nI a, nI j)) (fun c a => if 0 < K 4 c then a + 1 else a) (K 0 1) (by omega) rfl (fun j a hj => ?_) ?_
    · have b := O.2.2.1 j; simp (disch := first | exact wv_is H Vc | exact wv_x1 H Vc (by omega) | exact wv_x2 H Vc (by omega) | exact wv_x3 H Vc (by omega) | exact wv_x4 H Vc (by omega) | exact wv_x5 H Vc (by omega) | exact wv_x6 H Vc (by omega) | omega) only [f_8_4s, nI_1, nI_add, pk_mul, pk_sub, nI_leI, nI_ltI, nI_eq, nI_clamp, Option.bind_some, ma_b0, ma_p0, if_true, if_false, mE, mF, mI_lt, mI_le, mI_eq, mI_s, nm_le, nm_lt, mn_le, mn_lt, nm_eq, mn_eq, if_pos, if_neg, ma_Ik, ma_R_pI, ma_R_pW, ma_I_pW, ma_1_pI, ma_1_pW, ma_bit, ma_has, ma_shl, fa_or, fa_and, lA0, lB0, lC0, lD0, lE0, lF0, lG0, lH0, lA1, lB1, lC1, lD1, lE1, lF1, lG1, lH1, lK1, lA2, lB2, lC2, lD2, lE2, lF2, lG2, lH2, lK2, lI2, lJ2, lL2, lA5, lB5, lC5, lD5, lE5, lF5, lG5, lH5, lK5, lI5, lJ5, lL5, lA6, lB6, lC6, lD6, lE6, lF6, lG6, lH6, lK6, lI6, lJ6, lL6, lA7, lB7, lC7, lD7, lE7, lF7, lG7, lH7, lK7, lI7, lJ7, lL7, lA10, lB10, lC10, lD10, lE10, lF10, lG10, lH10, lK10, lI10, lJ10, lL10, jv_r2 H V.1, jv_r3 H V.1, jv_r4 H V.1, jv_r5 H V.1, jv_r6 H V.1, jv_r7 H V.1, V.2.1, V.2.2.1, V.2.2.2.1, V.2.2.2.2.1, V.2.2.2.2.2.1, V.2.2.2.2.2.2.1, V.2.2.2.2.2.2.2.1, V.2.2.2.2.2.2.2.2] <;> (repeat' split) <;> (try dsimp only) <;> first | rfl | (exfalso; omega) | (simp only [mI_s]; done) | (simp only [nI_1, Option.bind_some]; done) | (congr 3 <;> omega) | (congr 4 <;> omega) | (congr 5 <;> omega) | (simp_all; done) | (simp_all [mI_s]; done) | skip
    · simp (disch := first | exact wv_is H Vc | exact wv_x1 H Vc (by omega) | exact wv_x2 H Vc (by omega) | exact wv_x3 H Vc (by omega) | exact wv_x4 H Vc (by omega) | exact wv_x5 H Vc (by omega) | exact wv_x6 H Vc (by omega) | omega) only [f_8_4s, nI_1, nI_add, pk_mul, pk_sub, nI_leI, nI_ltI, nI_eq, nI_clamp, Option.bind_some, ma_b0, ma_p0, if_true, if_false, mE, mF, mI_lt, mI_le, mI_eq, mI_s, nm_le, nm_lt, mn_le, mn_lt, nm_eq, mn_eq, if_pos, if_neg, ma_Ik, ma_R_pI, ma_R_pW, ma_I_pW, ma_1_pI, ma_1_pW, ma_bit, ma_has, ma_shl, fa_or, fa_and, lA0, lB0, lC0, lD0, lE0, lF0, lG0, lH0, lA1, lB1, lC1, lD1, lE1, lF1, lG1, lH1, lK1, lA2, lB2, lC2, lD2, lE2, lF2, lG2, lH2, lK2, lI2, lJ2, lL2, lA5, lB5, lC5, lD5, lE5, lF5, lG5, lH5, lK5, lI5, lJ5, lL5, lA6, lB6, lC6, lD6, lE6, lF6, lG6, lH6, lK6, lI6, lJ6, lL6, lA7, lB7, lC7, lD7, lE7, lF7, lG7, lH7, lK7, lI7, lJ7, lL7, lA10, lB10, lC10, lD10, lE10, lF10, lG10, lH10, lK10, lI10, lJ10, lL10, jv_r2 H V.1, jv_r3 H V.1, jv_r4 H V.1, jv_r5 H V.1, jv_r6 H V.1, jv_r7 H V.1, V.2.1, V.2.2.1, V.2.2.2.1, V.2.2.2.2.1, V.2.2.2.2.2.1, V.2.2.2.2.2.2.1, V.2.2.2.2.2.2.2.1, V.2.2.2.2.2.2.2.2] <;> rfl
  simp only [f_8, hl, Option.bind_some]
theorem m_242l (H : ma_H h) (hM : ma_M h K) (O : ma_OK K) (hN : 3000 < N) (a b e d : Int32) : pb_wl (f_242_40s N h 217 a b e d) N (0, 0) = some (nI (sp_fi K)) := by
  have hch := O.2.1
  have hl : pb_wl (f_242_40s N h 217 a b e d) N (0, 0) = some (nI (sp_fi K)) := by
    refine ma_lq (fun j a => (nI a, nI j)) (fun c a => if 0 < K 4 c then a + 1 else a) (K 0 1) (by omega) rfl (fun j a hj => ?_) ?_
    · have b := O.2.2.1 j; simp (disch := first | exact mi_217 H | exact mx_228 H (by omega) | exact mx_229 H (by omega) | exact mx_230 H (by omega) | exact mx_231 H (by omega) | exact mx_232 H (by omega) | exact mx_233 H (by omega) | omega) only [f_242_40s, nI_1, nI_add, pk_mul, pk_sub, nI_leI, nI_ltI, nI_eq, nI_clamp, Option.bind_some, ma_b0, ma_p0, if_true, if_false, mE, mF, mI_lt, mI_le, mI_eq, mI_s, nm_le, nm_lt, mn_le, mn_lt, nm_eq, mn_eq, if_pos, if_neg, ma_Ik, ma_R_pI, ma_R_pW, ma_I_pW, ma_1_pI, ma_1_pW, ma_bit, ma_has, ma_shl, fa_or, fa_and, lA0, lB0, lC0, lD0, lE0, lF0, lG0, lH0, lA1, lB1, lC1, lD1, lE1, lF1, lG1, lH1, lK1, lA2, lB2, lC2, lD2, lE2, lF2, lG2, lH2, lK2, lI2, lJ2, lL2, lA5, lB5, lC5, lD5, lE5, lF5, lG5, lH5, lK5, lI5, lJ5, lL5, lA6, lB6, lC6, lD6, lE6, lF6, lG6, lH6, lK6, lI6, lJ6, lL6, lA7, lB7, lC7, lD7, lE7, lF7, lG7, lH7, lK7, lI7, lJ7, lL7, lA10, lB10, lC10, lD10, lE10, lF10, lG10, lH10, lK10, lI10, lJ10, lL10, mr_217_30 H, mr_217_31 H, mr_217_32 H, mr_217_33 H, mr_217_34 H, mr_217_35 H, hM.1, hM.2.1, hM.2.2.1, hM.2.2.2.1, hM.2.2.2.2.1, hM.2.2.2.2.2.1, hM.2.2.2.2.2.2] <;> (repeat' split) <;> (try dsimp only) <;> first | rfl | (exfalso; omega) | (simp only [mI_s]; done) | (simp only [nI_1, Option.bind_some]; done) | (congr 3 <;> omega) | (congr 4 <;> omega) | (congr 5 <;> omega) | (simp_all; done) | (simp_all [mI_s]; done) | skip
    · simp (disch := first | exact mi_217 H | exact mx_228 H (by omega) | exact mx_229 H (by omega) | exact mx_230 H (by omega) | exact mx_231 H (by omega) | exact mx_232 H (by omega) | exact mx_233 H (by omega) | omega) only [f_242_40s, nI_1, nI_add, pk_mul, pk_sub, nI_leI, nI_ltI, nI_eq, nI_clamp, Option.bind_some, ma_b0, ma_p0, if_true, if_false, mE, mF, mI_lt, mI_le, mI_eq, mI_s, nm_le, nm_lt, mn_le, mn_lt, nm_eq, mn_eq, if_pos, if_neg, ma_Ik, ma_R_pI, ma_R_pW, ma_I_pW, ma_1_pI, ma_1_pW, ma_bit, ma_has, ma_shl, fa_or, fa_and, lA0, lB0, lC0, lD0, lE0, lF0, lG0, lH0, lA1, lB1, lC1, lD1, lE1, lF1, lG1, lH1, lK1, lA2, lB2, lC2, lD2, lE2, lF2, lG2, lH2, lK2, lI2, lJ2, lL2, lA5, lB5, lC5, lD5, lE5, lF5, lG5, lH5, lK5, lI5, lJ5, lL5, lA6, lB6, lC6, lD6, lE6, lF6, lG6, lH6, lK6, lI6, lJ6, lL6, lA7, lB7, lC7, lD7, lE7, lF7, lG7, lH7, lK7, lI7, lJ7, lL7, lA10, lB10, lC10, lD10, lE10, lF10, lG10, lH10, lK10, lI10, lJ10, lL10, mr_217_30 H, mr_217_31 H, mr_217_32 H, mr_217_33 H, mr_217_34 H, mr_217_35 H, hM.1, hM.2.1, hM.2.2.1, hM.2.2.2.1, hM.2.2.2.2.1, hM.2.2.2.2.2.1, hM.2.2.2.2.2.2] <;> rfl
  exact hl
theorem c_148l (H : ma_H h) (V : ma_V h c K) (O : ma_OK K) {m : Nat} (hm : m < K 0 0) (hN : 3000 < N) : pb_wl (f_148_29s N h (nI m) c) N (0, 0) = some (nI (sp_fr K m)) := by
  have hch := O.2.1
  have hl : pb_wl (f_148_29s N h (nI m) c) N (0, 0) = some (nI (sp_fr K m)) := by
    have Vc := V.1
    refine ma_lq (fun j a => (nI a, nI j)) (fun c a => if 0 < K 4 c ∧ K 4 c ≤ 10 * K 1 m then a ||| 2 ^ c else a) (K 0 1) (by omega) rfl (fun j a hj => ?_) ?_
    · have b := O.2.2.1 j; simp (disch := first | exact wv_is H Vc | exact wv_x1 H Vc (by omega) | exact wv_x2 H Vc (by omega) | exact wv_x3 H Vc (by omega) | exact wv_x4 H Vc (by omega) | exact wv_x5 H Vc (by omega) | exact wv_x6 H Vc (by omega) | omega) only [f_148_29s, nI_1, nI_add, pk_mul, pk_sub, nI_leI, nI_ltI, nI_eq, nI_clamp, Option.bind_some, ma_b0, ma_p0, if_true, if_false, mE, mF, mI_lt, mI_le, mI_eq, mI_s, nm_le, nm_lt, mn_le, mn_lt, nm_eq, mn_eq, if_pos, if_neg, ma_Ik, ma_R_pI, ma_R_pW, ma_I_pW, ma_1_pI, ma_1_pW, ma_bit, ma_has, ma_shl, fa_or, fa_and, lA0, lB0, lC0, lD0, lE0, lF0, lG0, lH0, lA1, lB1, lC1, lD1, lE1, lF1, lG1, lH1, lK1, lA2, lB2, lC2, lD2, lE2, lF2, lG2, lH2, lK2, lI2, lJ2, lL2, lA5, lB5, lC5, lD5, lE5, lF5, lG5, lH5, lK5, lI5, lJ5, lL5, lA6, lB6, lC6, lD6, lE6, lF6, lG6, lH6, lK6, lI6, lJ6, lL6, lA7, lB7, lC7, lD7, lE7, lF7, lG7, lH7, lK7, lI7, lJ7, lL7, lA10, lB10, lC10, lD10, lE10, lF10, lG10, lH10, lK10, lI10, lJ10, lL10, jv_r2 H V.1, jv_r3 H V.1, jv_r4 H V.1, jv_r5 H V.1, jv_r6 H V.1, jv_r7 H V.1, V.2.1, V.2.2.1, V.2.2.2.1, V.2.2.2.2.1, V.2.2.2.2.2.1, V.2.2.2.2.2.2.1, V.2.2.2.2.2.2.2.1, V.2.2.2.2.2.2.2.2, c_12 H V O hm] <;> (repeat' split) <;> (try dsimp only) <;> first | rfl | (exfalso; omega) | (simp only [mI_s]; done) | (simp only [nI_1, Option.bind_some]; done) | (congr 3 <;> omega) | (congr 4 <;> omega) | (congr 5 <;> omega) | (simp_all; done) | (simp_all [mI_s]; done) | skip
    · simp (disch := first | exact wv_is H Vc | exact wv_x1 H Vc (by omega) | exact wv_x2 H Vc (by omega) | exact wv_x3 H Vc (by omega) | exact wv_x4 H Vc (by omega) | exact wv_x5 H Vc (by omega) | exact wv_x6 H Vc (by omega) | omega) only [f_148_29s, nI_1, nI_add, pk_mul, pk_sub, nI_leI, nI_ltI, nI_eq, nI_clamp, Option.bind_some, ma_b0, ma_p0, if_true, if_false, mE, mF, mI_lt, mI_le, mI_eq, mI_s, nm_le, nm_lt, mn_le, mn_lt, nm_eq, mn_eq, if_pos, if_neg, ma_Ik, ma_R_pI, ma_R_pW, ma_I_pW, ma_1_pI, ma_1_pW, ma_bit, ma_has, ma_shl, fa_or, fa_and, lA0, lB0, lC0, lD0, lE0, lF0, lG0, lH0, lA1, lB1, lC1, lD1, lE1, lF1, lG1, lH1, lK1, lA2, lB2, lC2, lD2, lE2, lF2, lG2, lH2, lK2, lI2, lJ2, lL2, lA5, lB5, lC5, lD5, lE5, lF5, lG5, lH5, lK5, lI5, lJ5, lL5, lA6, lB6, lC6, lD6, lE6, lF6, lG6, lH6, lK6, lI6, lJ6, lL6, lA7, lB7, lC7, lD7, lE7, lF7, lG7, lH7, lK7, lI7, lJ7, lL7, lA10, lB10, lC10, lD10, lE10, lF10, lG10, lH10, lK10, lI10, lJ10, lL10, jv_r2 H V.1, jv_r3 H V.1, jv_r4 H V.1, jv_r5 H V.1, jv_r6 H V.1, jv_r7 H V.1, V.2.1, V.2.2.1, V.2.2.2.1, V.2.2.2.2.1, V.2.2.2.2.2.1, V.2.2.2.2.2.2.1, V.2.2.2.2.2.2.2.1, V.2.2.2.2.2.2.2.2, c_12 H V O hm] <;> rfl
  exact hl
theorem m_of (H : ma_H h) (F : ma_of h K) : (∀ m, m < 6 → f_197 h 217 (nI (2 + m)) = some (nI (K 1 m))) ∧ (∀ m, m < 6 → f_197 h 217 (nI (8 + m)) = some (nI (K 2 m))) ∧ (∀ m, m < 6 → f_197 h 217 (nI (14 + m)) = some (nI (K 3 m))) ∧ (∀ m, m < 6 → f_197 h 217 (nI (20 + m)) = some (nI (K 4 m))) ∧ (∀ m, m < 6 → f_197 h 217 (nI (26 + m)) = some (nI (K 5 m))) ∧ f_197 h 217 (nI 0) = some (nI (K 0 0)) ∧ f_197 h 217 (nI 1) = some (nI (K 0 1)) := by
  obtain ⟨k, hk, e, T⟩ := F
  refine ⟨fun m hm => ?_, fun m hm => ?_, fun m hm => ?_, fun m hm => ?_, fun m hm => ?_, ?_, ?_⟩
  · rw [m_197 H hk e (by omega), T.2.2.1 m hm]
  · rw [m_197 H hk e (by omega), T.2.2.2.1 m hm]
  · rw [m_197 H hk e (by omega), T.2.2.2.2.1 m hm]
  · rw [m_197 H hk e (by omega), T.2.2.2.2.2.1 m hm]
  · rw [m_197 H hk e (by omega), T.2.2.2.2.2.2.1 m hm]
  · rw [m_197 H hk e (by omega)]; exact congrArg some T.1
  · rw [m_197 H hk e (by omega)]; exact congrArg some T.2.1
theorem m_276l (H : ma_H h) (hM : ma_M h K) (F : ma_of h K) (O : ma_OK K) {m : Nat} (hm : m < 6) (hN : 3000 < N) : pb_wl (f_276_28s N h 217 (nI m)) N (0, 0) = some (nI (sp_fr K m)) := by
  have hch := O.2.1
  have f1 := (m_of H F).1 m hm
  have bm := O.2.2.1 m
  have e2 : ∀ a, nI a ||| 0 = nI a := fun a => (fa_or a 0).trans (by rw [Nat.or_zero])
  have hl : pb_wl (f_276_28s N h 217 (nI m)) N (0, 0) = some (nI (sp_fr K m)) := by
    refine ma_lq (fun j a => (nI a, nI j)) (fun c a => if 0 < K 4 c ∧ K 4 c ≤ 10 * K 1 m then a ||| 2 ^ c else a) (K 0 1) (by omega) rfl (fun j a hj => ?_) ?_
    · have b := O.2.2.1 j; simp (disch := first | exact mi_217 H | exact mx_228 H (by omega) | exact mx_229 H (by omega) | exact mx_230 H (by omega) | exact mx_231 H (by omega) | exact mx_232 H (by omega) | exact mx_233 H (by omega) | omega) only [f_276_28s, nI_1, nI_add, pk_mul, pk_sub, nI_leI, nI_ltI, nI_eq, nI_clamp, Option.bind_some, ma_b0, ma_p0, if_true, if_false, mE, mF, mI_lt, mI_le, mI_eq, mI_s, nm_le, nm_lt, mn_le, mn_lt, nm_eq, mn_eq, if_pos, if_neg, ma_Ik, ma_R_pI, ma_R_pW, ma_I_pW, ma_1_pI, ma_1_pW, ma_bit, ma_has, ma_shl, fa_or, fa_and, lA0, lB0, lC0, lD0, lE0, lF0, lG0, lH0, lA1, lB1, lC1, lD1, lE1, lF1, lG1, lH1, lK1, lA2, lB2, lC2, lD2, lE2, lF2, lG2, lH2, lK2, lI2, lJ2, lL2, lA5, lB5, lC5, lD5, lE5, lF5, lG5, lH5, lK5, lI5, lJ5, lL5, lA6, lB6, lC6, lD6, lE6, lF6, lG6, lH6, lK6, lI6, lJ6, lL6, lA7, lB7, lC7, lD7, lE7, lF7, lG7, lH7, lK7, lI7, lJ7, lL7, lA10, lB10, lC10, lD10, lE10, lF10, lG10, lH10, lK10, lI10, lJ10, lL10, mr_217_30 H, mr_217_31 H, mr_217_32 H, mr_217_33 H, mr_217_34 H, mr_217_35 H, hM.1, hM.2.1, hM.2.2.1, hM.2.2.2.1, hM.2.2.2.2.1, hM.2.2.2.2.2.1, hM.2.2.2.2.2.2, f1, e2] <;> (repeat' split) <;> (try dsimp only) <;> first | rfl | (exfalso; omega) | (simp only [mI_s]; done) | (simp only [nI_1, Option.bind_some]; done) | (congr 3 <;> omega) | (congr 4 <;> omega) | (congr 5 <;> omega) | (simp_all; done) | (simp_all [mI_s]; done) | skip
    · simp (disch := first | exact mi_217 H | exact mx_228 H (by omega) | exact mx_229 H (by omega) | exact mx_230 H (by omega) | exact mx_231 H (by omega) | exact mx_232 H (by omega) | exact mx_233 H (by omega) | omega) only [f_276_28s, nI_1, nI_add, pk_mul, pk_sub, nI_leI, nI_ltI, nI_eq, nI_clamp, Option.bind_some, ma_b0, ma_p0, if_true, if_false, mE, mF, mI_lt, mI_le, mI_eq, mI_s, nm_le, nm_lt, mn_le, mn_lt, nm_eq, mn_eq, if_pos, if_neg, ma_Ik, ma_R_pI, ma_R_pW, ma_I_pW, ma_1_pI, ma_1_pW, ma_bit, ma_has, ma_shl, fa_or, fa_and, lA0, lB0, lC0, lD0, lE0, lF0, lG0, lH0, lA1, lB1, lC1, lD1, lE1, lF1, lG1, lH1, lK1, lA2, lB2, lC2, lD2, lE2, lF2, lG2, lH2, lK2, lI2, lJ2, lL2, lA5, lB5, lC5, lD5, lE5, lF5, lG5, lH5, lK5, lI5, lJ5, lL5, lA6, lB6, lC6, lD6, lE6, lF6, lG6, lH6, lK6, lI6, lJ6, lL6, lA7, lB7, lC7, lD7, lE7, lF7, lG7, lH7, lK7, lI7, lJ7, lL7, lA10, lB10, lC10, lD10, lE10, lF10, lG10, lH10, lK10, lI10, lJ10, lL10, mr_217_30 H, mr_217_31 H, mr_217_32 H, mr_217_33 H, mr_217_34 H, mr_217_35 H, hM.1, hM.2.1, hM.2.2.1, hM.2.2.2.1, hM.2.2.2.2.1, hM.2.2.2.2.2.1, hM.2.2.2.2.2.2, f1, e2] <;> rfl
  exact hl
theorem c_149l (H : ma_H h) (V : ma_V h c K) (O : ma_OK K) {m : Nat} (hm : m < 6) (hN : 3000 < N) (t : Int32) : pb_wl (f_149_34s N h (nI m) t c) N (0, 0) = some (nI (ma_fo (fun c a => a + sp_ls K c (K 2 m)) (K 0 1) 0)) := by
  have hch := O.2.1
  have bm := O.2.2.1 m
  rw [show ma_fo (fun c a => a + sp_ls K c (K 2 m)) (K 0 1) 0 = ma_fo (fun t a => if (K 2 m).testBit t then a + sp_sw K t else a) 6 0 from (ma_exch (K 2 m) (fun c t => K 6 (6 * c + t)) (K 0 1)).symm]
  have hl : pb_wl (f_149_34s N h (nI m) t c) N (0, 0) = some (nI (ma_fo (fun t a => if (K 2 m).testBit t then a + sp_sw K t else a) 6 0)) := by
    have Vc := V.1
    refine ma_lq (fun j a => (nI a, nI j)) (fun t a => if (K 2 m).testBit t then a + sp_sw K t else a) (6) (by omega) rfl (fun j a hj => ?_) ?_
    · simp (disch := first | exact wv_is H Vc | exact wv_x1 H Vc (by omega) | exact wv_x2 H Vc (by omega) | exact wv_x3 H Vc (by omega) | exact wv_x4 H Vc (by omega) | exact wv_x5 H Vc (by omega) | exact wv_x6 H Vc (by omega) | omega) only [f_149_34s, nI_1, nI_add, pk_mul, pk_sub, nI_leI, nI_ltI, nI_eq, nI_clamp, Option.bind_some, ma_b0, ma_p0, if_true, if_false, mE, mF, mI_lt, mI_le, mI_eq, mI_s, nm_le, nm_lt, mn_le, mn_lt, nm_eq, mn_eq, if_pos, if_neg, ma_Ik, ma_R_pI, ma_R_pW, ma_I_pW, ma_1_pI, ma_1_pW, ma_bit, ma_has, ma_shl, fa_or, fa_and, lA0, lB0, lC0, lD0, lE0, lF0, lG0, lH0, lA1, lB1, lC1, lD1, lE1, lF1, lG1, lH1, lK1, lA2, lB2, lC2, lD2, lE2, lF2, lG2, lH2, lK2, lI2, lJ2, lL2, lA5, lB5, lC5, lD5, lE5, lF5, lG5, lH5, lK5, lI5, lJ5, lL5, lA6, lB6, lC6, lD6, lE6, lF6, lG6, lH6, lK6, lI6, lJ6, lL6, lA7, lB7, lC7, lD7, lE7, lF7, lG7, lH7, lK7, lI7, lJ7, lL7, lA10, lB10, lC10, lD10, lE10, lF10, lG10, lH10, lK10, lI10, lJ10, lL10, jv_r2 H V.1, jv_r3 H V.1, jv_r4 H V.1, jv_r5 H V.1, jv_r6 H V.1, jv_r7 H V.1, V.2.1, V.2.2.1, V.2.2.2.1, V.2.2.2.2.1, V.2.2.2.2.2.1, V.2.2.2.2.2.2.1, V.2.2.2.2.2.2.2.1, V.2.2.2.2.2.2.2.2, c_10 H V O _ hN] <;> (repeat' split) <;> (try dsimp only) <;> first | rfl | (exfalso; omega) | (simp only [mI_s]; done) | (simp only [nI_1, Option.bind_some]; done) | (congr 3 <;> omega) | (congr 4 <;> omega) | (congr 5 <;> omega) | (simp_all; done) | (simp_all [mI_s]; done) | skip
    · simp (disch := first | exact wv_is H Vc | exact wv_x1 H Vc (by omega) | exact wv_x2 H Vc (by omega) | exact wv_x3 H Vc (by omega) | exact wv_x4 H Vc (by omega) | exact wv_x5 H Vc (by omega) | exact wv_x6 H Vc (by omega) | omega) only [f_149_34s, nI_1, nI_add, pk_mul, pk_sub, nI_leI, nI_ltI, nI_eq, nI_clamp, Option.bind_some, ma_b0, ma_p0, if_true, if_false, mE, mF, mI_lt, mI_le, mI_eq, mI_s, nm_le, nm_lt, mn_le, mn_lt, nm_eq, mn_eq, if_pos, if_neg, ma_Ik, ma_R_pI, ma_R_pW, ma_I_pW, ma_1_pI, ma_1_pW, ma_bit, ma_has, ma_shl, fa_or, fa_and, lA0, lB0, lC0, lD0, lE0, lF0, lG0, lH0, lA1, lB1, lC1, lD1, lE1, lF1, lG1, lH1, lK1, lA2, lB2, lC2, lD2, lE2, lF2, lG2, lH2, lK2, lI2, lJ2, lL2, lA5, lB5, lC5, lD5, lE5, lF5, lG5, lH5, lK5, lI5, lJ5, lL5, lA6, lB6, lC6, lD6, lE6, lF6, lG6, lH6, lK6, lI6, lJ6, lL6, lA7, lB7, lC7, lD7, lE7, lF7, lG7, lH7, lK7, lI7, lJ7, lL7, lA10, lB10, lC10, lD10, lE10, lF10, lG10, lH10, lK10, lI10, lJ10, lL10, jv_r2 H V.1, jv_r3 H V.1, jv_r4 H V.1, jv_r5 H V.1, jv_r6 H V.1, jv_r7 H V.1, V.2.1, V.2.2.1, V.2.2.2.1, V.2.2.2.2.1, V.2.2.2.2.2.1, V.2.2.2.2.2.2.1, V.2.2.2.2.2.2.2.1, V.2.2.2.2.2.2.2.2, c_10 H V O _ hN] <;> rfl
  exact hl
theorem m_277l (H : ma_H h) (hM : ma_M h K) (O : ma_OK K) {m : Nat} (hm : m < 6) (hN : 3000 < N) (t : Int32) : pb_wl (f_277_38s N h 217 (nI m) t) N (0, 0) = some (lN (ma_fo (fun c a => a + sp_ls K c (K 2 m)) (K 0 1) 0)) := by
  have hch := O.2.1
  have bm := O.2.2.1 m
  have hs := fun c => ma_sl O c (K 2 m)
  have hl : pb_wl (f_277_38s N h 217 (nI m) t) N (0, 0) = some (lN (ma_fo (fun c a => a + sp_ls K c (K 2 m)) (K 0 1) 0)) := by
    refine ma_lq (fun j a => (lN a, nI j)) (fun c a => a + sp_ls K c (K 2 m)) (K 0 1) (by omega) rfl (fun j a hj => ?_) ?_
    · have b := hs j; simp (disch := first | exact mi_217 H | exact mx_228 H (by omega) | exact mx_229 H (by omega) | exact mx_230 H (by omega) | exact mx_231 H (by omega) | exact mx_232 H (by omega) | exact mx_233 H (by omega) | omega) only [f_277_38s, nI_1, nI_add, pk_mul, pk_sub, nI_leI, nI_ltI, nI_eq, nI_clamp, Option.bind_some, ma_b0, ma_p0, if_true, if_false, mE, mF, mI_lt, mI_le, mI_eq, mI_s, nm_le, nm_lt, mn_le, mn_lt, nm_eq, mn_eq, if_pos, if_neg, ma_Ik, ma_R_pI, ma_R_pW, ma_I_pW, ma_1_pI, ma_1_pW, ma_bit, ma_has, ma_shl, fa_or, fa_and, lA0, lB0, lC0, lD0, lE0, lF0, lG0, lH0, lA1, lB1, lC1, lD1, lE1, lF1, lG1, lH1, lK1, lA2, lB2, lC2, lD2, lE2, lF2, lG2, lH2, lK2, lI2, lJ2, lL2, lA5, lB5, lC5, lD5, lE5, lF5, lG5, lH5, lK5, lI5, lJ5, lL5, lA6, lB6, lC6, lD6, lE6, lF6, lG6, lH6, lK6, lI6, lJ6, lL6, lA7, lB7, lC7, lD7, lE7, lF7, lG7, lH7, lK7, lI7, lJ7, lL7, lA10, lB10, lC10, lD10, lE10, lF10, lG10, lH10, lK10, lI10, lJ10, lL10, mr_217_30 H, mr_217_31 H, mr_217_32 H, mr_217_33 H, mr_217_34 H, mr_217_35 H, hM.1, hM.2.1, hM.2.2.1, hM.2.2.2.1, hM.2.2.2.2.1, hM.2.2.2.2.2.1, hM.2.2.2.2.2.2, m_204 H hM _ _ hN, nI_l, lN_add] <;> (repeat' split) <;> (try dsimp only) <;> first | rfl | (exfalso; omega) | (simp only [mI_s]; done) | (simp only [nI_1, Option.bind_some]; done) | (congr 3 <;> omega) | (congr 4 <;> omega) | (congr 5 <;> omega) | (simp_all; done) | (simp_all [mI_s]; done) | skip
    · simp (disch := first | exact mi_217 H | exact mx_228 H (by omega) | exact mx_229 H (by omega) | exact mx_230 H (by omega) | exact mx_231 H (by omega) | exact mx_232 H (by omega) | exact mx_233 H (by omega) | omega) only [f_277_38s, nI_1, nI_add, pk_mul, pk_sub, nI_leI, nI_ltI, nI_eq, nI_clamp, Option.bind_some, ma_b0, ma_p0, if_true, if_false, mE, mF, mI_lt, mI_le, mI_eq, mI_s, nm_le, nm_lt, mn_le, mn_lt, nm_eq, mn_eq, if_pos, if_neg, ma_Ik, ma_R_pI, ma_R_pW, ma_I_pW, ma_1_pI, ma_1_pW, ma_bit, ma_has, ma_shl, fa_or, fa_and, lA0, lB0, lC0, lD0, lE0, lF0, lG0, lH0, lA1, lB1, lC1, lD1, lE1, lF1, lG1, lH1, lK1, lA2, lB2, lC2, lD2, lE2, lF2, lG2, lH2, lK2, lI2, lJ2, lL2, lA5, lB5, lC5, lD5, lE5, lF5, lG5, lH5, lK5, lI5, lJ5, lL5, lA6, lB6, lC6, lD6, lE6, lF6, lG6, lH6, lK6, lI6, lJ6, lL6, lA7, lB7, lC7, lD7, lE7, lF7, lG7, lH7, lK7, lI7, lJ7, lL7, lA10, lB10, lC10, lD10, lE10, lF10, lG10, lH10, lK10, lI10, lJ10, lL10, mr_217_30 H, mr_217_31 H, mr_217_32 H, mr_217_33 H, mr_217_34 H, mr_217_35 H, hM.1, hM.2.1, hM.2.2.1, hM.2.2.2.1, hM.2.2.2.2.1, hM.2.2.2.2.2.1, hM.2.2.2.2.2.2, m_204 H hM _ _ hN, nI_l, lN_add] <;> rfl
  exact hl
theorem c_22 (H : ma_H h) (V : ma_V h c K) (O : ma_OK K) {a b : Nat} (ha : a < 6) (hb : b < 6) (hN : 3000 < N) : f_22 N h c (nI a) (nI b) = some (nI (sp_un K a b)) := by
  have hl : pb_wl (f_22_5s N h c (nI a) (nI b)) N (0, 0) = some (nI (sp_un K a b)) := by
    have Vc := V.1
    refine ma_lq (fun j s => (nI s, nI j)) (fun t s => s + (if K 6 (6 * b + t) ≤ K 6 (6 * a + t) then K 6 (6 * a + t) - K 6 (6 * b + t) else K 6 (6 * b + t) - K 6 (6 * a + t))) 6 (by omega) rfl (fun j s hj => ?_) rfl
    have b1 := O.2.2.1 (6 * a + j)
    have b2 := O.2.2.1 (6 * b + j)
    rcases Nat.lt_or_ge (K 6 (6 * a + j)) (K 6 (6 * b + j)) with q | q <;> simp (disch := first | exact wv_is H Vc | exact wv_x1 H Vc (by omega) | exact wv_x2 H Vc (by omega) | exact wv_x3 H Vc (by omega) | exact wv_x4 H Vc (by omega) | exact wv_x5 H Vc (by omega) | exact wv_x6 H Vc (by omega) | omega) only [f_22_5s, nI_1, nI_add, pk_mul, pk_sub, nI_leI, nI_ltI, nI_eq, nI_clamp, Option.bind_some, ma_b0, ma_p0, if_true, if_false, mE, mF, mI_lt, mI_le, mI_eq, mI_s, nm_le, nm_lt, mn_le, mn_lt, nm_eq, mn_eq, if_pos, if_neg, ma_Ik, ma_R_pI, ma_R_pW, ma_I_pW, ma_1_pI, ma_1_pW, ma_bit, ma_has, ma_shl, fa_or, fa_and, lA0, lB0, lC0, lD0, lE0, lF0, lG0, lH0, lA1, lB1, lC1, lD1, lE1, lF1, lG1, lH1, lK1, lA2, lB2, lC2, lD2, lE2, lF2, lG2, lH2, lK2, lI2, lJ2, lL2, lA5, lB5, lC5, lD5, lE5, lF5, lG5, lH5, lK5, lI5, lJ5, lL5, lA6, lB6, lC6, lD6, lE6, lF6, lG6, lH6, lK6, lI6, lJ6, lL6, lA7, lB7, lC7, lD7, lE7, lF7, lG7, lH7, lK7, lI7, lJ7, lL7, lA10, lB10, lC10, lD10, lE10, lF10, lG10, lH10, lK10, lI10, lJ10, lL10, jv_r2 H V.1, jv_r3 H V.1, jv_r4 H V.1, jv_r5 H V.1, jv_r6 H V.1, jv_r7 H V.1, V.2.1, V.2.2.1, V.2.2.2.1, V.2.2.2.2.1, V.2.2.2.2.2.1, V.2.2.2.2.2.2.1, V.2.2.2.2.2.2.2.1, V.2.2.2.2.2.2.2.2, ma_sge, ma_neg]
  simp only [f_22, hl, Option.bind_some]
theorem m_278l (H : ma_H h) (hM : ma_M h K) (O : ma_OK K) {a b : Nat} (ha : a < 6) (hb : b < 6) (hN : 3000 < N) : pb_wl (f_278_37s N h 217 (nI a) (nI b)) N (0, 0) = some (nI (sp_un K a b)) := by
  refine ma_lq (fun j s => (nI s, nI j)) (fun t s => s + (if K 6 (6 * b + t) ≤ K 6 (6 * a + t) then K 6 (6 * a + t) - K 6 (6 * b + t) else K 6 (6 * b + t) - K 6 (6 * a + t))) 6 (by omega) rfl (fun j s hj => ?_) rfl
  have b1 := O.2.2.1 (6 * a + j)
  have b2 := O.2.2.1 (6 * b + j)
  rcases Nat.lt_or_ge (K 6 (6 * a + j)) (K 6 (6 * b + j)) with q | q <;> simp (disch := first | exact mi_217 H | exact mx_232 H (by omega) | omega) only [f_278_37s, nI_1, nI_add, pk_mul, pk_sub, nI_leI, nI_ltI, nI_eq, nI_clamp, Option.bind_some, ma_b0, ma_p0, if_true, if_false, mE, mF, mI_lt, mI_le, mI_eq, mI_s, nm_le, nm_lt, mn_le, mn_lt, nm_eq, mn_eq, if_pos, if_neg, ma_Ik, ma_R_pI, ma_R_pW, ma_I_pW, ma_1_pI, ma_1_pW, ma_bit, ma_has, ma_shl, fa_or, fa_and, lA0, lB0, lC0, lD0, lE0, lF0, lG0, lH0, lA1, lB1, lC1, lD1, lE1, lF1, lG1, lH1, lK1, lA2, lB2, lC2, lD2, lE2, lF2, lG2, lH2, lK2, lI2, lJ2, lL2, lA5, lB5, lC5, lD5, lE5, lF5, lG5, lH5, lK5, lI5, lJ5, lL5, lA6, lB6, lC6, lD6, lE6, lF6, lG6, lH6, lK6, lI6, lJ6, lL6, lA7, lB7, lC7, lD7, lE7, lF7, lG7, lH7, lK7, lI7, lJ7, lL7, lA10, lB10, lC10, lD10, lE10, lF10, lG10, lH10, lK10, lI10, lJ10, lL10, mr_217_30 H, mr_217_31 H, mr_217_32 H, mr_217_33 H, mr_217_34 H, mr_217_35 H, hM.1, hM.2.1, hM.2.2.1, hM.2.2.2.1, hM.2.2.2.2.1, hM.2.2.2.2.2.1, hM.2.2.2.2.2.2, ma_sge, ma_neg2]
theorem m_274l (H : ma_H h) (hM : ma_M h K) (O : ma_OK K) (hT : ma_to h (sp_to K)) (hN : 3000 < N) (t : Int32) : pb_wl (f_274_24s N h 217 t) N (0, 0) = some (nI (sp_ga K)) := by
  have hme := O.1
  have hg := sp_gg_lt O
  have ho := sp_on_le
  refine ma_lp (fun j a => (nI a, nI j)) (sp_gag K) (fun _ a => a < 64) (K 0 0) (a0 := 0) (by omega) (by decide) rfl (fun j a hj ha => ⟨?_, ?_⟩) ?_
  · have b3 := hg j; unfold sp_gag; split <;> omega
  · have b1 := ho a
    have b2 := ho (sp_gg K j)
    have b3 := hg j
    have ha : a < 64 := ha
    unfold f_274_24s
    rw [if_pos (mi_217 H), hM.1]
    dsimp only
    rw [if_neg (nI_ge hj (by omega)), m_273 H hM O hT (show j < 6 by omega) hN, Option.bind_some, m_172 (by omega) hN, Option.bind_some, m_172 (by omega) hN, Option.bind_some, Option.bind_some, nI_1]
    unfold sp_gag
    by_cases q : sp_on a < sp_on (sp_gg K j)
    · rw [if_neg (nI_ge q (by omega)), if_pos q]
    · rw [if_pos (nI_le (by omega) (by omega)), if_neg q]
  · intro ha
    unfold f_274_24s
    rw [if_pos (mi_217 H), hM.1]
    dsimp only
    rw [if_pos (nI_le (Nat.le_refl _) (by omega))]
    rfl
end
section
variable {h : pb_HP} {N : Nat}
theorem q_gang (I : ma_INV h) (hN : 3000 < N) (x t : Int32) : ma_Q0 h (f_146 N h 0 x t) (fun g => f_274 N g 217 x t) := by
  have H := I.1
  have hq : ma_q h (pb_pI h 217 0 0) := ma_q_pI (ma_q_r h) (by decide) 0 0
  rcases ma_W I hN x with ⟨e1, e2⟩ | ⟨c, K, e1, hc, O, OT, V, e2⟩
  · exact ⟨-1, pb_pI h 217 0 0, by simp only [f_146, if_pos (mi_0 H), mr_0_0 H, Option.bind_some, if_pos (mi_1 H), e1], by simp only [f_274, if_pos (mi_217 H), e2 _ hq, Option.bind_some, i10, i01, true_or, or_true, false_or, or_false, true_and, and_true, and_false, false_and, not_true_eq_false, not_false_eq_true, if_true, if_false, eq_self, ma_b0, Bool.false_eq_true, Bool.true_eq_false, reduceCtorEq], hq⟩
  · obtain ⟨g, e3, q3, B⟩ := e2 _ hq
    obtain ⟨g3, l1, l2, l3, l4, l5, l6, l7, _⟩ := ma_lay B.1 B.2.1 O hN
    have z1 := c_20 H V O hN
    have z2 := m_274l l3 l4 O l5 hN t
    have hl := sp_ga_lt O
    refine ⟨if t = 0 then nI (sp_on (sp_ga K)) else nI (sp_ga K), g3, ?_, ?_, ma_q_t hq (ma_q_t q3 l2)⟩
    · simp only [f_146, if_pos (mi_0 H), mr_0_0 H, Option.bind_some, if_pos (mi_1 H), e1, if_pos (wv_is H V.1), z1, c_164 hl]
    · simp only [f_274, if_pos (mi_217 H), e3, Option.bind_some, if_pos (mi_217 B.1), l1, z2, m_172 (show sp_ga K < 2 ^ 31 by omega) hN, i10, i01, true_or, or_true, false_or, or_false, true_and, and_true, and_false, false_and, not_true_eq_false, not_false_eq_true, if_true, if_false, eq_self, ma_b0, Bool.false_eq_true, Bool.true_eq_false, reduceCtorEq]
      split <;> rfl
theorem q_freed (I : ma_INV h) (hN : 3000 < N) (x y : Int32) : ma_Q0 h (f_148 N h 0 x y) (fun g => f_276 N g 217 x y) := by
  have H := I.1
  have hq : ma_q h (pb_pI h 217 0 0) := ma_q_pI (ma_q_r h) (by decide) 0 0
  rcases ma_W I hN x with ⟨e1, e2⟩ | ⟨c, K, e1, hc, O, OT, V, e2⟩
  · exact ⟨-1, pb_pI h 217 0 0, by simp only [f_148, if_pos (mi_0 H), mr_0_0 H, Option.bind_some, if_pos (mi_1 H), e1], by simp only [f_276, if_pos (mi_217 H), e2 _ hq, Option.bind_some, i10, i01, true_or, or_true, false_or, or_false, true_and, and_true, and_false, false_and, not_true_eq_false, not_false_eq_true, if_true, if_false, eq_self, ma_b0, Bool.false_eq_true, Bool.true_eq_false, reduceCtorEq], hq⟩
  · have hO := O.1
    cases qm : ma_at y (K 0 0)
    · obtain ⟨g, e3, q3, B⟩ := e2 _ hq
      exact ⟨-1, g, by simp only [f_148, if_pos (mi_0 H), mr_0_0 H, Option.bind_some, if_pos (mi_1 H), e1, if_pos (wv_is H V.1), c_3 H V, qm, i10, i01, true_or, or_true, false_or, or_false, true_and, and_true, and_false, false_and, not_true_eq_false, not_false_eq_true, if_true, if_false, eq_self, ma_b0, Bool.false_eq_true, Bool.true_eq_false, reduceCtorEq], by simp only [f_276, if_pos (mi_217 H), e3, Option.bind_some, if_pos (mi_217 B.1), m_200 B.1 B.2.1 O, qm, i10, i01, true_or, or_true, false_or, or_false, true_and, and_true, and_false, false_and, not_true_eq_false, not_false_eq_true, if_true, if_false, eq_self, ma_b0, Bool.false_eq_true, Bool.true_eq_false, reduceCtorEq], ma_q_t hq q3⟩
    · obtain ⟨m, hm, rfl⟩ := ma_at_ex (by omega) qm
      obtain ⟨g, e3, q3, B⟩ := e2 _ hq
      have z1 := c_148l H V O hm hN
      have z2 := m_276l B.1 B.2.1 B.2.2.1 O (show m < 6 by omega) hN
      exact ⟨nI (sp_fr K m), g, by simp only [f_148, if_pos (mi_0 H), mr_0_0 H, Option.bind_some, if_pos (mi_1 H), e1, if_pos (wv_is H V.1), c_3 H V, qm, z1, i10, i01, true_or, or_true, false_or, or_false, true_and, and_true, and_false, false_and, not_true_eq_false, not_false_eq_true, if_true, if_false, eq_self, ma_b0, Bool.false_eq_true, Bool.true_eq_false, reduceCtorEq], by simp only [f_276, if_pos (mi_217 H), e3, Option.bind_some, if_pos (mi_217 B.1), m_200 B.1 B.2.1 O, qm, z2, i10, i01, true_or, or_true, false_or, or_false, true_and, and_true, and_false, false_and, not_true_eq_false, not_false_eq_true, if_true, if_false, eq_self, ma_b0, Bool.false_eq_true, Bool.true_eq_false, reduceCtorEq], ma_q_t hq q3⟩
theorem q_unlike (I : ma_INV h) (hN : 3000 < N) (x y z : Int32) : ma_Q0 h (f_150 N h 0 x y z) (fun g => f_278 N g 217 x y z) := by
  have H := I.1
  have hq : ma_q h (pb_pI h 217 0 0) := ma_q_pI (ma_q_r h) (by decide) 0 0
  rcases ma_W I hN x with ⟨e1, e2⟩ | ⟨c, K, e1, hc, O, OT, V, e2⟩
  · exact ⟨-1, pb_pI h 217 0 0, by simp only [f_150, if_pos (mi_0 H), mr_0_0 H, Option.bind_some, if_pos (mi_1 H), e1], by simp only [f_278, if_pos (mi_217 H), e2 _ hq, Option.bind_some, i10, i01, true_or, or_true, false_or, or_false, true_and, and_true, and_false, false_and, not_true_eq_false, not_false_eq_true, if_true, if_false, eq_self, ma_b0, Bool.false_eq_true, Bool.true_eq_false, reduceCtorEq], hq⟩
  · have hO := O.2.1
    cases qm : ma_at y (K 0 1)
    · obtain ⟨g, e3, q3, B⟩ := e2 _ hq
      exact ⟨-1, g, by simp only [f_150, if_pos (mi_0 H), mr_0_0 H, Option.bind_some, if_pos (mi_1 H), e1, if_pos (wv_is H V.1), c_4 H V, qm, i10, i01, true_or, or_true, false_or, or_false, true_and, and_true, and_false, false_and, not_true_eq_false, not_false_eq_true, if_true, if_false, eq_self, ma_b0, Bool.false_eq_true, Bool.true_eq_false, reduceCtorEq], by simp only [f_278, if_pos (mi_217 H), e3, Option.bind_some, if_pos (mi_217 B.1), m_201 B.1 B.2.1 O, qm, i10, i01, true_or, or_true, false_or, or_false, true_and, and_true, and_false, false_and, not_true_eq_false, not_false_eq_true, if_true, if_false, eq_self, ma_b0, Bool.false_eq_true, Bool.true_eq_false, reduceCtorEq], ma_q_t hq q3⟩
    · have qy := qm
      clear qm
      cases qm : ma_at z (K 0 1)
      · obtain ⟨g, e3, q3, B⟩ := e2 _ hq
        exact ⟨-1, g, by simp only [f_150, if_pos (mi_0 H), mr_0_0 H, Option.bind_some, if_pos (mi_1 H), e1, if_pos (wv_is H V.1), c_4 H V, qy, qm, i10, i01, true_or, or_true, false_or, or_false, true_and, and_true, and_false, false_and, not_true_eq_false, not_false_eq_true, if_true, if_false, eq_self, ma_b0, Bool.false_eq_true, Bool.true_eq_false, reduceCtorEq], by simp only [f_278, if_pos (mi_217 H), e3, Option.bind_some, if_pos (mi_217 B.1), m_201 B.1 B.2.1 O, qy, qm, i10, i01, true_or, or_true, false_or, or_false, true_and, and_true, and_false, false_and, not_true_eq_false, not_false_eq_true, if_true, if_false, eq_self, ma_b0, Bool.false_eq_true, Bool.true_eq_false, reduceCtorEq], ma_q_t hq q3⟩
      · obtain ⟨a, ha, rfl⟩ := ma_at_ex (by omega) qy
        obtain ⟨b, hb, rfl⟩ := ma_at_ex (by omega) qm
        obtain ⟨g, e3, q3, B⟩ := e2 _ hq
        have z1 := c_22 H V O (show a < 6 by omega) (show b < 6 by omega) hN
        have z2 := m_278l B.1 B.2.1 O (show a < 6 by omega) (show b < 6 by omega) hN
        exact ⟨nI (sp_un K a b), g, by simp only [f_150, if_pos (mi_0 H), mr_0_0 H, Option.bind_some, if_pos (mi_1 H), e1, if_pos (wv_is H V.1), c_4 H V, qm, qy, z1, i10, i01, true_or, or_true, false_or, or_false, true_and, and_true, and_false, false_and, not_true_eq_false, not_false_eq_true, if_true, if_false, eq_self, ma_b0, Bool.false_eq_true, Bool.true_eq_false, reduceCtorEq], by simp only [f_278, if_pos (mi_217 H), e3, Option.bind_some, if_pos (mi_217 B.1), m_201 B.1 B.2.1 O, qm, qy, z2, i10, i01, true_or, or_true, false_or, or_false, true_and, and_true, and_false, false_and, not_true_eq_false, not_false_eq_true, if_true, if_false, eq_self, ma_b0, Bool.false_eq_true, Bool.true_eq_false, reduceCtorEq], ma_q_t hq q3⟩
theorem q_liked (I : ma_INV h) (hN : 3000 < N) (x y t : Int32) : ma_Q0 h (f_149 N h 0 x y t) (fun g => f_277 N g 217 x y t) := by
  have H := I.1
  have hq : ma_q h (pb_pI h 217 0 0) := ma_q_pI (ma_q_r h) (by decide) 0 0
  rcases ma_W I hN x with ⟨e1, e2⟩ | ⟨c, K, e1, hc, O, OT, V, e2⟩
  · exact ⟨-1, pb_pI h 217 0 0, by simp only [f_149, if_pos (mi_0 H), mr_0_0 H, Option.bind_some, if_pos (mi_1 H), e1], by simp only [f_277, if_pos (mi_217 H), e2 _ hq, Option.bind_some, i10, i01, true_or, or_true, false_or, or_false, true_and, and_true, and_false, false_and, not_true_eq_false, not_false_eq_true, if_true, if_false, eq_self, ma_b0, Bool.false_eq_true, Bool.true_eq_false, reduceCtorEq], hq⟩
  · have hO := O.1
    have hO2 := O.2.1
    cases qm : ma_at y (K 0 0)
    · obtain ⟨g, e3, q3, B⟩ := e2 _ hq
      exact ⟨-1, g, by simp only [f_149, if_pos (mi_0 H), mr_0_0 H, Option.bind_some, if_pos (mi_1 H), e1, if_pos (wv_is H V.1), c_3 H V, qm, i10, i01, true_or, or_true, false_or, or_false, true_and, and_true, and_false, false_and, not_true_eq_false, not_false_eq_true, if_true, if_false, eq_self, ma_b0, Bool.false_eq_true, Bool.true_eq_false, reduceCtorEq], by simp only [f_277, if_pos (mi_217 H), e3, Option.bind_some, if_pos (mi_217 B.1), m_200 B.1 B.2.1 O, qm, i10, i01, true_or, or_true, false_or, or_false, true_and, and_true, and_false, false_and, not_true_eq_false, not_false_eq_true, if_true, if_false, eq_self, ma_b0, Bool.false_eq_true, Bool.true_eq_false, reduceCtorEq], ma_q_t hq q3⟩
    · obtain ⟨m, hm, rfl⟩ := ma_at_ex (by omega) qm
      obtain ⟨g, e3, q3, B⟩ := e2 _ hq
      have z1 := c_149l H V O (show m < 6 by omega) hN t
      have z2 := m_277l B.1 B.2.1 O (show m < 6 by omega) hN t
      have hb : ma_fo (fun c a => a + sp_ls K c (K 2 m)) (K 0 1) 0 ≤ 3600 := by
        have := ma_fo_inv (g := fun c a => a + sp_ls K c (K 2 m)) (P := fun j a => a ≤ 600 * j) (a0 := 0) (Nat.le_refl _) (K 0 1) (fun j a _ ha => by
          have := ma_sl O j (K 2 m)
          omega)
        omega
      obtain ⟨S, hS⟩ : ∃ S, S = ma_fo (fun c a => a + sp_ls K c (K 2 m)) (K 0 1) 0 := ⟨_, rfl⟩
      rw [← hS] at z1 z2 hb
      have hz : (nI (K 0 1) = 0) = (K 0 1 = 0) := propext (lE0 (by omega))
      have hz2 : Int32.toInt64 (nI (K 0 1)) = lN (K 0 1) := nI_l (by omega)
      have hz3 : Int32.toInt64 (nI S) = lN S := nI_l (by omega)
      by_cases q0 : K 0 1 = 0
      · exact ⟨-1, g, by
          simp only [f_149, if_pos (mi_0 H), mr_0_0 H, Option.bind_some, if_pos (mi_1 H), e1, if_pos (wv_is H V.1), c_3 H V, qm, z1, V.2.2.1, i10, i01, true_or, or_true, false_or, or_false, true_and, and_true, and_false, false_and, not_true_eq_false, not_false_eq_true, if_true, if_false, eq_self, ma_b0, Bool.false_eq_true, Bool.true_eq_false, reduceCtorEq]
          rw [hz2, q0]
          exact congrArg (fun o => Option.bind o _) (c_165z N _ t), by simp only [f_277, if_pos (mi_217 H), e3, Option.bind_some, if_pos (mi_217 B.1), m_200 B.1 B.2.1 O, qm, B.2.1.2.1, (show nI (K 0 1) = 0 by rw [q0]; rfl), i10, i01, true_or, or_true, false_or, or_false, true_and, and_true, and_false, false_and, not_true_eq_false, not_false_eq_true, if_true, if_false, eq_self, ma_b0, Bool.false_eq_true, Bool.true_eq_false, reduceCtorEq], ma_q_t hq q3⟩
      · obtain ⟨r, r1, r2⟩ := ma_frac (a := K 0 1) (b := S) (N := N) (by omega) (by omega) (by omega) t hN
        exact ⟨r, g, by simp only [f_149, if_pos (mi_0 H), mr_0_0 H, Option.bind_some, if_pos (mi_1 H), e1, if_pos (wv_is H V.1), c_3 H V, qm, z1, V.2.2.1, hz2, hz3, r1, i10, i01, true_or, or_true, false_or, or_false, true_and, and_true, and_false, false_and, not_true_eq_false, not_false_eq_true, if_true, if_false, eq_self, ma_b0, Bool.false_eq_true, Bool.true_eq_false, reduceCtorEq], by simp only [f_277, if_pos (mi_217 H), e3, Option.bind_some, if_pos (mi_217 B.1), m_200 B.1 B.2.1 O, qm, B.2.1.2.1, hz, q0, hz2, z2, r2, i10, i01, true_or, or_true, false_or, or_false, true_and, and_true, and_false, false_and, not_true_eq_false, not_false_eq_true, if_true, if_false, eq_self, ma_b0, Bool.false_eq_true, Bool.true_eq_false, reduceCtorEq], ma_q_t hq q3⟩
theorem q_power (I : ma_INV h) (hN : 3000 < N) (x y t : Int32) : ma_Q h (f_135 N h 0 x y t) (fun g => f_235 N g 217 x y t) := by
  have H := I.1
  have hq : ma_q h (pb_pI h 217 0 0) := ma_q_pI (ma_q_r h) (by decide) 0 0
  rcases ma_W I hN x with ⟨e1, e2⟩ | ⟨c, K, e1, hc, O, OT, V, e2⟩
  · exact ⟨-1, h, pb_pI h 217 0 0, by simp only [f_135, if_pos (mi_0 H), mr_0_0 H, Option.bind_some, if_pos (mi_1 H), e1], ma_q_r h, by simp only [f_235, if_pos (mi_217 H), e2 _ hq, Option.bind_some, i10, i01, true_or, or_true, false_or, or_false, true_and, and_true, and_false, false_and, not_true_eq_false, not_false_eq_true, if_true, if_false, eq_self, ma_b0, Bool.false_eq_true, Bool.true_eq_false, reduceCtorEq], hq⟩
  · have hO := O.2.1
    cases qm : ma_at y (K 0 1)
    · obtain ⟨g, e3, q3, B⟩ := e2 _ hq
      exact ⟨-1, h, g, by simp only [f_135, if_pos (mi_0 H), mr_0_0 H, Option.bind_some, if_pos (mi_1 H), e1, if_pos (wv_is H V.1), c_7n H V qm, qm, i10, i01, true_or, or_true, false_or, or_false, true_and, and_true, and_false, false_and, not_true_eq_false, not_false_eq_true, if_true, if_false, eq_self, ma_b0, Bool.false_eq_true, Bool.true_eq_false, reduceCtorEq], ma_q_r h, by simp only [f_235, if_pos (mi_217 H), e3, Option.bind_some, if_pos (mi_217 B.1), m_201 B.1 B.2.1 O, qm, i10, i01, true_or, or_true, false_or, or_false, true_and, and_true, and_false, false_and, not_true_eq_false, not_false_eq_true, if_true, if_false, eq_self, ma_b0, Bool.false_eq_true, Bool.true_eq_false, reduceCtorEq], ma_q_t hq q3⟩
    · obtain ⟨i, hi, rfl⟩ := ma_at_ex (by omega) qm
      have hi6 : i < 6 := by omega
      have v1 := c_7 H V O hi6
      by_cases qv : sp_vt K i = true
      · rw [if_pos ⟨hi, qv⟩] at v1
        obtain ⟨g, a1, a2, a3, a4, _, a5⟩ := ma_ask H V O hc hN
        have hq2 : ma_q h (pb_pI g 217 0 0) := ma_q_pI a2 (by decide) 0 0
        obtain ⟨g2, e3, q3, B⟩ := e2 _ hq2
        obtain ⟨g3, l1, l2, l3, l4, l5, l6, l7, _⟩ := ma_lay B.1 B.2.1 O hN
        have hv := sp_vs_lt O
        have hpk := fun b => sp_pk_le O (sp_to K) b
        have is5 := mi_182 a3
        have v2 := m_202 B.1 B.2.1 O hi6
        rw [qv] at v2
        have hcl := sp_cl_le (sp_vs K) i
        have z1 := c_82 hi6 is5 hv a4 a5 hpk hN
        have z2 := m_235l hi6 l3 (show sp_cl (sp_vs K) i < 64 by omega) l6 hpk hN t
        have y1 : nI (sp_vs K) &&& ((1 : Int32) <<< (nI i &&& 31) ^^^ -1) = nI (sp_cl (sp_vs K) i) := by rw [ma_shl (by omega)]; exact ma_clr hv hi6
        have y2 := m_305 (s := sp_cl (sp_vs K) i) (by omega)
        have y3 := m_172 (N := N) (s := sp_cl (sp_vs K) i) (by omega) hN
        have y4 := sp_on_le (sp_cl (sp_vs K) i)
        have y5 := sp_dc_le (sp_pk K (sp_to K)) (sp_cl (sp_vs K) i) i
        obtain ⟨W, hW⟩ : ∃ W, W = sp_cl (sp_vs K) i := ⟨_, rfl⟩
        rw [← hW] at z1 z2 y1 y2 y3 y4 y5
        obtain ⟨n, hn⟩ : ∃ n, n = sp_on W := ⟨_, rfl⟩
        rw [← hn] at y2 y3 y4
        obtain ⟨d, hd⟩ : ∃ d, d = sp_dc (sp_pk K (sp_to K)) W i := ⟨_, rfl⟩
        rw [← hd] at z1 z2 y5
        have y6 : (1 : Int32) <<< (nI n &&& 31) = nI (2 ^ n) := ma_shl (by omega)
        have y7 := ma_p2 y4
        have y8 : Int32.toInt64 (nI (2 ^ n)) = lN (2 ^ n) := nI_l (by omega)
        have y9 : Int32.toInt64 (nI d) = lN d := nI_l (by omega)
        have y10 : f_234 N 2 (nI n) = some (lN (2 ^ n)) := m_234 (x := 2) (by omega) hN
        obtain ⟨r, r1, r2⟩ := ma_frac (a := 2 ^ n) (b := d) (N := N) (Nat.two_pow_pos n) (by omega) (by omega) t hN
        refine ⟨r, g, g3, ?_, a2, ?_, ma_q_t (ma_q_pI (ma_q_r g) (by decide) 0 0) (ma_q_t q3 l2)⟩
        · simp only [f_135, if_pos (mi_0 H), mr_0_0 H, Option.bind_some, if_pos (mi_1 H), e1, if_pos (wv_is H V.1), v1, mr_0_4 H, if_pos (mi_182 H), a1, if_pos (mi_0 a3), mr_0_4 a3, if_pos is5, z1, a4, y1, y2, y6, y8, y9, r1, i10, i01, true_or, or_true, false_or, or_false, true_and, and_true, and_false, false_and, not_true_eq_false, not_false_eq_true, if_true, if_false, eq_self, ma_b0, Bool.false_eq_true, Bool.true_eq_false, reduceCtorEq]
        · simp only [f_235, if_pos (mi_217 a3), e3, Option.bind_some, if_pos (mi_217 B.1), m_201 B.1 B.2.1 O, qm, v2, l1, if_pos (mi_217 l3), l7, y1, z2, y3, y10, r2, i10, i01, true_or, or_true, false_or, or_false, true_and, and_true, and_false, false_and, not_true_eq_false, not_false_eq_true, if_true, if_false, eq_self, ma_b0, Bool.false_eq_true, Bool.true_eq_false, reduceCtorEq]
      · rw [if_neg (fun q => qv q.2)] at v1
        obtain ⟨g, e3, q3, B⟩ := e2 _ hq
        have v2 := m_202 B.1 B.2.1 O hi6
        rw [show sp_vt K i = false by simpa using qv] at v2
        exact ⟨-1, h, g, by simp only [f_135, if_pos (mi_0 H), mr_0_0 H, Option.bind_some, if_pos (mi_1 H), e1, if_pos (wv_is H V.1), v1, i10, i01, true_or, or_true, false_or, or_false, true_and, and_true, and_false, false_and, not_true_eq_false, not_false_eq_true, if_true, if_false, eq_self, ma_b0, Bool.false_eq_true, Bool.true_eq_false, reduceCtorEq], ma_q_r h, by simp only [f_235, if_pos (mi_217 H), e3, Option.bind_some, if_pos (mi_217 B.1), m_201 B.1 B.2.1 O, qm, v2, i10, i01, true_or, or_true, false_or, or_false, true_and, and_true, and_false, false_and, not_true_eq_false, not_false_eq_true, if_true, if_false, eq_self, ma_b0, Bool.false_eq_true, Bool.true_eq_false, reduceCtorEq], ma_q_t hq q3⟩
end
