/-! Queries: kindest, runoff. -/
theorem ma_cn_rm {q : Nat → Bool} {g : Nat} (hq : q g = true) : ∀ n, g < n → ma_cn (fun m => q m && decide (m ≠ g)) n + 1 = ma_cn q n
  | n + 1, h => by
    rw [ma_cn_s, ma_cn_s]
    by_cases e : n = g
    · subst e
      have : ma_cn (fun m => q m && decide (m ≠ n)) n = ma_cn q n := ma_cn_cong n (fun c hc => by
        have : c ≠ n := by omega
        simp [this])
      rw [this, hq]
      simp
    · have ih := ma_cn_rm hq n (by omega)
      simp only [ne_eq] at ih
      simp only [ne_eq, e, not_false_eq_true, decide_true, Bool.and_true]
      split <;> omega
theorem ma_cn_ex {q : Nat → Bool} : ∀ n, 0 < ma_cn q n → ∃ m, m < n ∧ q m = true
  | n + 1, h => by
    by_cases e : q n = true
    · exact ⟨n, by omega, e⟩
    · rw [ma_cn_s, if_neg e] at h
      obtain ⟨m, a, b⟩ := ma_cn_ex n h
      exact ⟨m, by omega, b⟩
theorem ma_cn_mono {p q : Nat → Bool} : ∀ n, (∀ m, m < n → p m = true → q m = true) → ma_cn p n ≤ ma_cn q n
  | 0, _ => Nat.le_refl _
  | n + 1, h => by
    have ih := ma_cn_mono n (fun m hm => h m (by omega))
    rw [ma_cn_s, ma_cn_s]
    by_cases e : p n = true
    · rw [if_pos e, if_pos (h n (by omega) e)]; omega
    · rw [if_neg e]; split <;> omega
theorem ma_cn_lt {p q : Nat → Bool} {g n : Nat} (hg : g < n) (h1 : q g = true) (h2 : p g = false) (h : ∀ m, m < n → p m = true → q m = true) : ma_cn p n < ma_cn q n := by
  have := ma_cn_rm h1 n hg
  have := ma_cn_mono (p := p) (q := fun m => q m && decide (m ≠ g)) n (fun m hm z => by
    have : m ≠ g := fun e => by rw [e, h2] at z; cases z
    simp [h m hm z, this])
  omega
def sp_be (K : ma_K) (o m : Nat) : Bool := decide (K 1 m < K 1 o) || (decide (K 1 o = K 1 m) && decide (o < m))
theorem sp_be_iff (K : ma_K) (o m : Nat) : sp_be K o m = true ↔ K 1 m < K 1 o ∨ (K 1 o = K 1 m ∧ o < m) := by simp [sp_be]
theorem sp_be_not (K : ma_K) (o m : Nat) : sp_be K o m = false ↔ ¬ (K 1 m < K 1 o ∨ (K 1 o = K 1 m ∧ o < m)) := by rw [← sp_be_iff, Bool.not_eq_true]
def sp_rk (K : ma_K) (m : Nat) : Nat := ma_cn (fun o => sp_be K o m) (K 0 0)
theorem sp_rk_lt {K : ma_K} {m : Nat} (hm : m < K 0 0) : sp_rk K m < K 0 0 := by
  have h1 : ma_cn (fun _ => true) (K 0 0) = K 0 0 := by
    have : ∀ n, ma_cn (fun _ => true) n = n := fun n => by
      induction n with
      | zero => rfl
      | succ n ih => rw [ma_cn_s, ih]; rfl
    exact this _
  have := ma_cn_lt (p := fun o => sp_be K o m) (q := fun _ => true) hm rfl ((sp_be_not K m m).mpr (by omega)) (fun _ _ _ => rfl)
  rw [h1] at this
  exact this
theorem sp_rk_inj {K : ma_K} {m n : Nat} (hm : m < K 0 0) (hn : n < K 0 0) (h : sp_rk K m = sp_rk K n) : m = n := by
  rcases Nat.lt_trichotomy m n with q | q | q
  · exfalso
    by_cases b : sp_be K m n = true
    · have := ma_cn_lt (p := fun o => sp_be K o m) (q := fun o => sp_be K o n) hm b ((sp_be_not K m m).mpr (by omega)) (fun o ho z => by
        rw [sp_be_iff] at b z ⊢
        omega)
      unfold sp_rk at h; omega
    · have b2 : sp_be K n m = true := by rw [sp_be_iff] at b ⊢; omega
      have := ma_cn_lt (p := fun o => sp_be K o n) (q := fun o => sp_be K o m) hn b2 ((sp_be_not K n n).mpr (by omega)) (fun o ho z => by
        rw [sp_be_iff] at b2 z ⊢
        omega)
      unfold sp_rk at h; omega
  · exact q
  · exfalso
    by_cases b : sp_be K n m = true
    · have := ma_cn_lt (p := fun o => sp_be K o n) (q := fun o => sp_be K o m) hn b ((sp_be_not K n n).mpr (by omega)) (fun o ho z => by
        rw [sp_be_iff] at b z ⊢
        omega)
      unfold sp_rk at h; omega
    · have b2 : sp_be K m n = true := by rw [sp_be_iff] at b ⊢; omega
      have := ma_cn_lt (p := fun o => sp_be K o m) (q := fun o => sp_be K o n) hm b2 ((sp_be_not K m m).mpr (by omega)) (fun o ho z => by
        rw [sp_be_iff] at b2 z ⊢
        omega)
      unfold sp_rk at h; omega
/-- who is chosen of those not had: + 1, 0 none -/
def sp_wg (K : ma_K) (had m w : Nat) : Nat := if had.testBit m = false ∧ (w = 0 ∨ K 1 (w - 1) < K 1 m) then m + 1 else w
def sp_wh (K : ma_K) (had : Nat) : Nat := ma_fo (sp_wg K had) (K 0 0) 0
theorem sp_wh_inv (K : ma_K) (had n : Nat) : (ma_fo (sp_wg K had) n 0 = 0 ∧ ∀ m, m < n → had.testBit m = true) ∨ (0 < ma_fo (sp_wg K had) n 0 ∧ ma_fo (sp_wg K had) n 0 ≤ n ∧ had.testBit (ma_fo (sp_wg K had) n 0 - 1) = false ∧ ∀ m, m < n → had.testBit m = false → m ≠ ma_fo (sp_wg K had) n 0 - 1 → sp_be K (ma_fo (sp_wg K had) n 0 - 1) m = true) := by
  refine ma_fo_inv (g := sp_wg K had) (P := fun n w => (w = 0 ∧ ∀ m, m < n → had.testBit m = true) ∨ (0 < w ∧ w ≤ n ∧ had.testBit (w - 1) = false ∧ ∀ m, m < n → had.testBit m = false → m ≠ w - 1 → sp_be K (w - 1) m = true)) (a0 := 0) (.inl ⟨rfl, fun m hm => absurd hm (Nat.not_lt_zero m)⟩) n ?_
  intro j w hj hw
  unfold sp_wg
  split
  · rename_i q
    right
    refine ⟨by omega, by omega, by simpa using q.1, fun m hm hb hne => ?_⟩
    have hm2 : m < j := by omega
    rcases hw with hw | hw
    · rw [hw.2 m hm2] at hb; cases hb
    · rw [sp_be_iff]
      show K 1 m < K 1 (j + 1 - 1) ∨ _
      rw [Nat.add_sub_cancel]
      rcases q.2 with z | z
      · omega
      · by_cases e : m = w - 1
        · rw [e]; left; exact z
        · have := (sp_be_iff K _ _).mp (hw.2.2.2 m hm2 hb e)
          omega
  · rename_i q
    rcases hw with hw | hw
    · left
      refine ⟨hw.1, fun m hm => ?_⟩
      by_cases e : m = j
      · subst e
        cases z : had.testBit m
        · exact absurd ⟨z, .inl hw.1⟩ q
        · rfl
      · exact hw.2 m (by omega)
    · right
      refine ⟨hw.1, by omega, hw.2.2.1, fun m hm hb hne => ?_⟩
      by_cases e : m = j
      · subst e
        rw [sp_be_iff]
        have : ¬ K 1 (w - 1) < K 1 m := fun z => q ⟨hb, .inr z⟩
        omega
      · exact hw.2.2.2 m (by omega) hb hne
/-- what the rounds keep -/
theorem sp_wh_next {K : ma_K} {had i : Nat} (hi : i < K 0 0) (hc : ma_cn (fun m => had.testBit m) (K 0 0) = i) (hd : ∀ o m, o < K 0 0 → m < K 0 0 → had.testBit m = true → sp_be K o m = true → had.testBit o = true) : 0 < sp_wh K had ∧ sp_wh K had ≤ K 0 0 ∧ had.testBit (sp_wh K had - 1) = false ∧ sp_rk K (sp_wh K had - 1) = i ∧ ∀ o, o < K 0 0 → sp_be K o (sp_wh K had - 1) = true → had.testBit o = true := by
  have h := sp_wh_inv K had (K 0 0)
  rw [show ma_fo (sp_wg K had) (K 0 0) 0 = sp_wh K had from rfl] at h
  rcases h with h | h
  · exfalso
    have h1 : ma_cn (fun m => had.testBit m) (K 0 0) = K 0 0 := by
      have : ∀ n, n ≤ K 0 0 → ma_cn (fun m => had.testBit m) n = n := fun n => by
        induction n with
        | zero => intro _; rfl
        | succ n ih => intro hn; rw [ma_cn_s, ih (by omega), h.2 n (by omega)]; rfl
      exact this _ (Nat.le_refl _)
    omega
  · have hn : ∀ o, o < K 0 0 → sp_be K o (sp_wh K had - 1) = true → had.testBit o = true := fun o ho z => by
      cases y : had.testBit o
      · exfalso
        by_cases e : o = sp_wh K had - 1
        · rw [e, sp_be_iff] at z; omega
        · have := (sp_be_iff K _ _).mp (h.2.2.2 o ho y e)
          rw [sp_be_iff] at z; omega
      · rfl
    refine ⟨h.1, h.2.1, h.2.2.1, ?_, hn⟩
    rw [← hc]
    refine ma_cn_cong _ (fun o ho => ?_)
    cases y : had.testBit o
    · cases z : sp_be K o (sp_wh K had - 1)
      · rfl
      · rw [hn o ho z] at y; cases y
    · by_cases e : o = sp_wh K had - 1
      · rw [e, h.2.2.1] at y; cases y
      · cases z : sp_be K o (sp_wh K had - 1)
        · exfalso
          have b : sp_be K (sp_wh K had - 1) o = true := by
            rw [sp_be_not] at z
            rw [sp_be_iff]
            omega
          have := hd _ o (by omega) ho y b
          rw [h.2.2.1] at this; cases this
        · rfl
theorem ma_tb_or (a m g : Nat) : (a ||| 2 ^ g).testBit m = (a.testBit m || decide (m = g)) := by
  rw [Nat.testBit_or, Nat.testBit_two_pow]
  by_cases e : g = m
  · simp [e]
  · have : ¬ m = g := fun z => e z.symm
    simp [e, this]
theorem ma_tb_cl {w c m : Nat} (hw : w < 64) (hc : c < 6) (hm : m < 6) : (sp_cl w c).testBit m = (w.testBit m && decide (m ≠ c)) := by
  have : ∀ (w : Fin 64) (c m : Fin 6), (sp_cl w.val c.val).testBit m.val = (w.val.testBit m.val && decide (m.val ≠ c.val)) := by decide +kernel
  exact this ⟨w, hw⟩ ⟨c, hc⟩ ⟨m, hm⟩
section
variable {h : pb_HP} {K : ma_K} {N c : Nat}
theorem c_21 (H : ma_H h) (V : ma_V h c K) (O : ma_OK K) (hN : 3000 < N) (x : Int32) : (∀ k, k < K 0 0 → sp_rk K k = sp_rk K k → x = nI (sp_rk K k) → f_21 N h c x = some (nI k)) ∧ (ma_at x (K 0 0) = false → f_21 N h c x = some (-1)) := by
  have hme := O.1
  have hi : ∀ (y : Int32) (m : Nat), m < K 0 0 → pb_wl (f_21_15s N h c y (nI m)) N (0, 0) = some (nI (sp_rk K m)) := by
    intro y m hm
    have bm := O.2.2.1 m
    have hl : pb_wl (f_21_15s N h c y (nI m)) N (0, 0) = some (nI (sp_rk K m)) := by
      have Vc := V.1
      refine ma_lq (fun j a => (nI a, nI j)) (fun o a => if sp_be K o m then a + 1 else a) (K 0 0) (by omega) rfl (fun j a hj => ?_) ?_
      · have b := O.2.2.1 j
        rcases Nat.lt_trichotomy (K 1 j) (K 1 m) with q | q | q
        · have e : sp_be K j m = false := (sp_be_not K j m).mpr (by omega)
          simp (disch := first | exact wv_is H Vc | exact wv_x1 H Vc (by omega) | exact wv_x2 H Vc (by omega) | exact wv_x3 H Vc (by omega) | exact wv_x4 H Vc (by omega) | exact wv_x5 H Vc (by omega) | exact wv_x6 H Vc (by omega) | omega) only [f_21_15s, nI_1, nI_add, pk_mul, pk_sub, nI_leI, nI_ltI, nI_eq, nI_clamp, Option.bind_some, ma_b0, ma_p0, if_true, if_false, mE, mF, mI_lt, mI_le, mI_eq, mI_s, nm_le, nm_lt, mn_le, mn_lt, nm_eq, mn_eq, if_pos, if_neg, ma_Ik, ma_R_pI, ma_R_pW, ma_I_pW, ma_1_pI, ma_1_pW, ma_bit, ma_has, ma_shl, fa_or, fa_and, lA0, lB0, lC0, lD0, lE0, lF0, lG0, lH0, lA1, lB1, lC1, lD1, lE1, lF1, lG1, lH1, lK1, lA2, lB2, lC2, lD2, lE2, lF2, lG2, lH2, lK2, lI2, lJ2, lL2, lA5, lB5, lC5, lD5, lE5, lF5, lG5, lH5, lK5, lI5, lJ5, lL5, lA6, lB6, lC6, lD6, lE6, lF6, lG6, lH6, lK6, lI6, lJ6, lL6, lA7, lB7, lC7, lD7, lE7, lF7, lG7, lH7, lK7, lI7, lJ7, lL7, lA10, lB10, lC10, lD10, lE10, lF10, lG10, lH10, lK10, lI10, lJ10, lL10, jv_r2 H V.1, jv_r3 H V.1, jv_r4 H V.1, jv_r5 H V.1, jv_r6 H V.1, jv_r7 H V.1, V.2.1, V.2.2.1, V.2.2.2.1, V.2.2.2.2.1, V.2.2.2.2.2.1, V.2.2.2.2.2.2.1, V.2.2.2.2.2.2.2.1, V.2.2.2.2.2.2.2.2, e, Bool.false_eq_true]
        · rcases Nat.lt_or_ge j m with q2 | q2
          · have e : sp_be K j m = true := (sp_be_iff K j m).mpr (by omega)
            simp (disch := first | exact wv_is H Vc | exact wv_x1 H Vc (by omega) | exact wv_x2 H Vc (by omega) | exact wv_x3 H Vc (by omega) | exact wv_x4 H Vc (by omega) | exact wv_x5 H Vc (by omega) | exact wv_x6 H Vc (by omega) | omega) only [f_21_15s, nI_1, nI_add, pk_mul, pk_sub, nI_leI, nI_ltI, nI_eq, nI_clamp, Option.bind_some, ma_b0, ma_p0, if_true, if_false, mE, mF, mI_lt, mI_le, mI_eq, mI_s, nm_le, nm_lt, mn_le, mn_lt, nm_eq, mn_eq, if_pos, if_neg, ma_Ik, ma_R_pI, ma_R_pW, ma_I_pW, ma_1_pI, ma_1_pW, ma_bit, ma_has, ma_shl, fa_or, fa_and, lA0, lB0, lC0, lD0, lE0, lF0, lG0, lH0, lA1, lB1, lC1, lD1, lE1, lF1, lG1, lH1, lK1, lA2, lB2, lC2, lD2, lE2, lF2, lG2, lH2, lK2, lI2, lJ2, lL2, lA5, lB5, lC5, lD5, lE5, lF5, lG5, lH5, lK5, lI5, lJ5, lL5, lA6, lB6, lC6, lD6, lE6, lF6, lG6, lH6, lK6, lI6, lJ6, lL6, lA7, lB7, lC7, lD7, lE7, lF7, lG7, lH7, lK7, lI7, lJ7, lL7, lA10, lB10, lC10, lD10, lE10, lF10, lG10, lH10, lK10, lI10, lJ10, lL10, jv_r2 H V.1, jv_r3 H V.1, jv_r4 H V.1, jv_r5 H V.1, jv_r6 H V.1, jv_r7 H V.1, V.2.1, V.2.2.1, V.2.2.2.1, V.2.2.2.2.1, V.2.2.2.2.2.1, V.2.2.2.2.2.2.1, V.2.2.2.2.2.2.2.1, V.2.2.2.2.2.2.2.2, e]
          · have e : sp_be K j m = false := (sp_be_not K j m).mpr (by omega)
            simp (disch := first | exact wv_is H Vc | exact wv_x1 H Vc (by omega) | exact wv_x2 H Vc (by omega) | exact wv_x3 H Vc (by omega) | exact wv_x4 H Vc (by omega) | exact wv_x5 H Vc (by omega) | exact wv_x6 H Vc (by omega) | omega) only [f_21_15s, nI_1, nI_add, pk_mul, pk_sub, nI_leI, nI_ltI, nI_eq, nI_clamp, Option.bind_some, ma_b0, ma_p0, if_true, if_false, mE, mF, mI_lt, mI_le, mI_eq, mI_s, nm_le, nm_lt, mn_le, mn_lt, nm_eq, mn_eq, if_pos, if_neg, ma_Ik, ma_R_pI, ma_R_pW, ma_I_pW, ma_1_pI, ma_1_pW, ma_bit, ma_has, ma_shl, fa_or, fa_and, lA0, lB0, lC0, lD0, lE0, lF0, lG0, lH0, lA1, lB1, lC1, lD1, lE1, lF1, lG1, lH1, lK1, lA2, lB2, lC2, lD2, lE2, lF2, lG2, lH2, lK2, lI2, lJ2, lL2, lA5, lB5, lC5, lD5, lE5, lF5, lG5, lH5, lK5, lI5, lJ5, lL5, lA6, lB6, lC6, lD6, lE6, lF6, lG6, lH6, lK6, lI6, lJ6, lL6, lA7, lB7, lC7, lD7, lE7, lF7, lG7, lH7, lK7, lI7, lJ7, lL7, lA10, lB10, lC10, lD10, lE10, lF10, lG10, lH10, lK10, lI10, lJ10, lL10, jv_r2 H V.1, jv_r3 H V.1, jv_r4 H V.1, jv_r5 H V.1, jv_r6 H V.1, jv_r7 H V.1, V.2.1, V.2.2.1, V.2.2.2.1, V.2.2.2.2.1, V.2.2.2.2.2.1, V.2.2.2.2.2.2.1, V.2.2.2.2.2.2.2.1, V.2.2.2.2.2.2.2.2, e, Bool.false_eq_true]
        · have e : sp_be K j m = true := (sp_be_iff K j m).mpr (by omega)
          simp (disch := first | exact wv_is H Vc | exact wv_x1 H Vc (by omega) | exact wv_x2 H Vc (by omega) | exact wv_x3 H Vc (by omega) | exact wv_x4 H Vc (by omega) | exact wv_x5 H Vc (by omega) | exact wv_x6 H Vc (by omega) | omega) only [f_21_15s, nI_1, nI_add, pk_mul, pk_sub, nI_leI, nI_ltI, nI_eq, nI_clamp, Option.bind_some, ma_b0, ma_p0, if_true, if_false, mE, mF, mI_lt, mI_le, mI_eq, mI_s, nm_le, nm_lt, mn_le, mn_lt, nm_eq, mn_eq, if_pos, if_neg, ma_Ik, ma_R_pI, ma_R_pW, ma_I_pW, ma_1_pI, ma_1_pW, ma_bit, ma_has, ma_shl, fa_or, fa_and, lA0, lB0, lC0, lD0, lE0, lF0, lG0, lH0, lA1, lB1, lC1, lD1, lE1, lF1, lG1, lH1, lK1, lA2, lB2, lC2, lD2, lE2, lF2, lG2, lH2, lK2, lI2, lJ2, lL2, lA5, lB5, lC5, lD5, lE5, lF5, lG5, lH5, lK5, lI5, lJ5, lL5, lA6, lB6, lC6, lD6, lE6, lF6, lG6, lH6, lK6, lI6, lJ6, lL6, lA7, lB7, lC7, lD7, lE7, lF7, lG7, lH7, lK7, lI7, lJ7, lL7, lA10, lB10, lC10, lD10, lE10, lF10, lG10, lH10, lK10, lI10, lJ10, lL10, jv_r2 H V.1, jv_r3 H V.1, jv_r4 H V.1, jv_r5 H V.1, jv_r6 H V.1, jv_r7 H V.1, V.2.1, V.2.2.1, V.2.2.2.1, V.2.2.2.2.1, V.2.2.2.2.2.1, V.2.2.2.2.2.2.1, V.2.2.2.2.2.2.2.1, V.2.2.2.2.2.2.2.2, e]
      · have Vc := V.1
        simp (disch := first | exact wv_is H Vc | exact wv_x1 H Vc (by omega) | exact wv_x2 H Vc (by omega) | exact wv_x3 H Vc (by omega) | exact wv_x4 H Vc (by omega) | exact wv_x5 H Vc (by omega) | exact wv_x6 H Vc (by omega) | omega) only [f_21_15s, nI_1, nI_add, pk_mul, pk_sub, nI_leI, nI_ltI, nI_eq, nI_clamp, Option.bind_some, ma_b0, ma_p0, if_true, if_false, mE, mF, mI_lt, mI_le, mI_eq, mI_s, nm_le, nm_lt, mn_le, mn_lt, nm_eq, mn_eq, if_pos, if_neg, ma_Ik, ma_R_pI, ma_R_pW, ma_I_pW, ma_1_pI, ma_1_pW, ma_bit, ma_has, ma_shl, fa_or, fa_and, lA0, lB0, lC0, lD0, lE0, lF0, lG0, lH0, lA1, lB1, lC1, lD1, lE1, lF1, lG1, lH1, lK1, lA2, lB2, lC2, lD2, lE2, lF2, lG2, lH2, lK2, lI2, lJ2, lL2, lA5, lB5, lC5, lD5, lE5, lF5, lG5, lH5, lK5, lI5, lJ5, lL5, lA6, lB6, lC6, lD6, lE6, lF6, lG6, lH6, lK6, lI6, lJ6, lL6, lA7, lB7, lC7, lD7, lE7, lF7, lG7, lH7, lK7, lI7, lJ7, lL7, lA10, lB10, lC10, lD10, lE10, lF10, lG10, lH10, lK10, lI10, lJ10, lL10, jv_r2 H V.1, jv_r3 H V.1, jv_r4 H V.1, jv_r5 H V.1, jv_r6 H V.1, jv_r7 H V.1, V.2.1, V.2.2.1, V.2.2.2.1, V.2.2.2.2.1, V.2.2.2.2.2.1, V.2.2.2.2.2.2.1, V.2.2.2.2.2.2.2.1, V.2.2.2.2.2.2.2.2] <;> rfl
    exact hl
  have hst : ∀ m, m < K 0 0 → f_21_2s N h c x (nI m) = if x = nI (sp_rk K m) then some (.inr (.inl (nI m))) else some (.inl (nI (m + 1))) := by
    intro m hm
    have Vc := V.1
    simp (disch := first | exact wv_is H Vc | exact wv_x1 H Vc (by omega) | exact wv_x2 H Vc (by omega) | exact wv_x3 H Vc (by omega) | exact wv_x4 H Vc (by omega) | exact wv_x5 H Vc (by omega) | exact wv_x6 H Vc (by omega) | omega) only [f_21_2s, nI_1, nI_add, pk_mul, pk_sub, nI_leI, nI_ltI, nI_eq, nI_clamp, Option.bind_some, ma_b0, ma_p0, if_true, if_false, mE, mF, mI_lt, mI_le, mI_eq, mI_s, nm_le, nm_lt, mn_le, mn_lt, nm_eq, mn_eq, if_pos, if_neg, ma_Ik, ma_R_pI, ma_R_pW, ma_I_pW, ma_1_pI, ma_1_pW, ma_bit, ma_has, ma_shl, fa_or, fa_and, lA0, lB0, lC0, lD0, lE0, lF0, lG0, lH0, lA1, lB1, lC1, lD1, lE1, lF1, lG1, lH1, lK1, lA2, lB2, lC2, lD2, lE2, lF2, lG2, lH2, lK2, lI2, lJ2, lL2, lA5, lB5, lC5, lD5, lE5, lF5, lG5, lH5, lK5, lI5, lJ5, lL5, lA6, lB6, lC6, lD6, lE6, lF6, lG6, lH6, lK6, lI6, lJ6, lL6, lA7, lB7, lC7, lD7, lE7, lF7, lG7, lH7, lK7, lI7, lJ7, lL7, lA10, lB10, lC10, lD10, lE10, lF10, lG10, lH10, lK10, lI10, lJ10, lL10, jv_r2 H V.1, jv_r3 H V.1, jv_r4 H V.1, jv_r5 H V.1, jv_r6 H V.1, jv_r7 H V.1, V.2.1, V.2.2.1, V.2.2.2.1, V.2.2.2.2.1, V.2.2.2.2.2.1, V.2.2.2.2.2.2.1, V.2.2.2.2.2.2.2.1, V.2.2.2.2.2.2.2.2, hi]
    by_cases q : x = nI (sp_rk K m)
    · rw [if_neg (by simp [q]), if_pos q]
    · rw [if_pos (fun z => q z.symm), if_neg q]
  constructor
  · intro k hk _ hx
    have hl : pb_wl (f_21_2s N h c x) N 0 = some (.inl (nI k)) := by
      refine ma_wl (fun j => nI j) k N 0 (by omega) (fun j _ hj => ?_) ?_
      · rw [hst j (by omega), if_neg]
        intro z
        rw [hx] at z
        have l1 := sp_rk_lt (K := K) hk
        have l2 := sp_rk_lt (K := K) (m := j) (by omega)
        have := (nI_eq (by omega) (by omega)).mp z
        have := sp_rk_inj hk (by omega) this
        omega
      · rw [Nat.zero_add, hst k hk, if_pos hx]
    simp only [f_21, hl, Option.bind_some]
  · intro hx
    have hl : pb_wl (f_21_2s N h c x) N 0 = some (.inr ()) := by
      refine ma_wl (fun j => nI j) (K 0 0) N 0 (by omega) (fun j _ hj => ?_) ?_
      · rw [hst j (by omega), if_neg]
        intro z
        have l2 := sp_rk_lt (K := K) (m := j) (by omega)
        rw [z, ma_at_nI (by omega) (by omega)] at hx
        simp at hx
        omega
      · rw [Nat.zero_add]
        have Vc := V.1
        simp (disch := first | exact wv_is H Vc | exact wv_x1 H Vc (by omega) | exact wv_x2 H Vc (by omega) | exact wv_x3 H Vc (by omega) | exact wv_x4 H Vc (by omega) | exact wv_x5 H Vc (by omega) | exact wv_x6 H Vc (by omega) | omega) only [f_21_2s, nI_1, nI_add, pk_mul, pk_sub, nI_leI, nI_ltI, nI_eq, nI_clamp, Option.bind_some, ma_b0, ma_p0, if_true, if_false, mE, mF, mI_lt, mI_le, mI_eq, mI_s, nm_le, nm_lt, mn_le, mn_lt, nm_eq, mn_eq, if_pos, if_neg, ma_Ik, ma_R_pI, ma_R_pW, ma_I_pW, ma_1_pI, ma_1_pW, ma_bit, ma_has, ma_shl, fa_or, fa_and, lA0, lB0, lC0, lD0, lE0, lF0, lG0, lH0, lA1, lB1, lC1, lD1, lE1, lF1, lG1, lH1, lK1, lA2, lB2, lC2, lD2, lE2, lF2, lG2, lH2, lK2, lI2, lJ2, lL2, lA5, lB5, lC5, lD5, lE5, lF5, lG5, lH5, lK5, lI5, lJ5, lL5, lA6, lB6, lC6, lD6, lE6, lF6, lG6, lH6, lK6, lI6, lJ6, lL6, lA7, lB7, lC7, lD7, lE7, lF7, lG7, lH7, lK7, lI7, lJ7, lL7, lA10, lB10, lC10, lD10, lE10, lF10, lG10, lH10, lK10, lI10, lJ10, lL10, jv_r2 H V.1, jv_r3 H V.1, jv_r4 H V.1, jv_r5 H V.1, jv_r6 H V.1, jv_r7 H V.1, V.2.1, V.2.2.1, V.2.2.2.1, V.2.2.2.2.1, V.2.2.2.2.2.1, V.2.2.2.2.2.2.1, V.2.2.2.2.2.2.2.1, V.2.2.2.2.2.2.2.2]
    simp only [f_21, hl, Option.bind_some]
theorem m_275i (H : ma_H h) (hM : ma_M h K) (F : ma_of h K) (O : ma_OK K) {had : Nat} (hd : had < 64) (hN : 3000 < N) (x y : Int32) : pb_wl (f_275_43s N h 217 x (nI had) y) N (-1, 0) = some (mI (sp_wh K had)) := by
  have hme := O.1
  have f1 := (m_of H F).1
  refine ma_lp (fun j a => (mI a, nI j)) (sp_wg K had) (fun j a => a ≤ j) (K 0 0) (a0 := 0) (by omega) (Nat.le_refl _) rfl (fun j a hj ha => ⟨?_, ?_⟩) ?_
  · unfold sp_wg; split <;> omega
  · have b1 := O.2.2.1 j
    have b2 := O.2.2.1 (a - 1)
    unfold sp_wg
    by_cases q0 : a = 0
    · subst q0
      by_cases q1 : had.testBit j = true <;> simp (disch := first | exact mi_217 H | omega) only [f_275_43s, f_275_82, nI_1, nI_add, pk_mul, pk_sub, nI_leI, nI_ltI, nI_eq, nI_clamp, Option.bind_some, ma_b0, ma_p0, if_true, if_false, mE, mF, mI_lt, mI_le, mI_eq, mI_s, nm_le, nm_lt, mn_le, mn_lt, nm_eq, mn_eq, if_pos, if_neg, ma_Ik, ma_R_pI, ma_R_pW, ma_I_pW, ma_1_pI, ma_1_pW, ma_bit, ma_has, ma_shl, fa_or, fa_and, lA0, lB0, lC0, lD0, lE0, lF0, lG0, lH0, lA1, lB1, lC1, lD1, lE1, lF1, lG1, lH1, lK1, lA2, lB2, lC2, lD2, lE2, lF2, lG2, lH2, lK2, lI2, lJ2, lL2, lA5, lB5, lC5, lD5, lE5, lF5, lG5, lH5, lK5, lI5, lJ5, lL5, lA6, lB6, lC6, lD6, lE6, lF6, lG6, lH6, lK6, lI6, lJ6, lL6, lA7, lB7, lC7, lD7, lE7, lF7, lG7, lH7, lK7, lI7, lJ7, lL7, lA10, lB10, lC10, lD10, lE10, lF10, lG10, lH10, lK10, lI10, lJ10, lL10, mr_217_30 H, mr_217_31 H, mr_217_32 H, mr_217_33 H, mr_217_34 H, mr_217_35 H, hM.1, hM.2.1, hM.2.2.1, hM.2.2.2.1, hM.2.2.2.2.1, hM.2.2.2.2.2.1, hM.2.2.2.2.2.2, q1, mI_0, Bool.true_eq_false, i10, i01, true_or, or_true, false_or, or_false, true_and, and_true, and_false, false_and, not_true_eq_false, not_false_eq_true, if_true, if_false, eq_self, reduceCtorEq]
    · obtain ⟨z, rfl⟩ : ∃ z, a = z + 1 := ⟨a - 1, by omega⟩
      have g1 := f1 j (by omega)
      have g2 := f1 z (by omega)
      rw [Nat.add_sub_cancel] at b2
      rcases Nat.lt_or_ge (K 1 z) (K 1 j) with q2 | q2 <;> by_cases q1 : had.testBit j = true <;> simp (disch := first | exact mi_217 H | omega) only [f_275_43s, f_275_82, nI_1, nI_add, pk_mul, pk_sub, nI_leI, nI_ltI, nI_eq, nI_clamp, Option.bind_some, ma_b0, ma_p0, if_true, if_false, mE, mF, mI_lt, mI_le, mI_eq, mI_s, nm_le, nm_lt, mn_le, mn_lt, nm_eq, mn_eq, if_pos, if_neg, ma_Ik, ma_R_pI, ma_R_pW, ma_I_pW, ma_1_pI, ma_1_pW, ma_bit, ma_has, ma_shl, fa_or, fa_and, lA0, lB0, lC0, lD0, lE0, lF0, lG0, lH0, lA1, lB1, lC1, lD1, lE1, lF1, lG1, lH1, lK1, lA2, lB2, lC2, lD2, lE2, lF2, lG2, lH2, lK2, lI2, lJ2, lL2, lA5, lB5, lC5, lD5, lE5, lF5, lG5, lH5, lK5, lI5, lJ5, lL5, lA6, lB6, lC6, lD6, lE6, lF6, lG6, lH6, lK6, lI6, lJ6, lL6, lA7, lB7, lC7, lD7, lE7, lF7, lG7, lH7, lK7, lI7, lJ7, lL7, lA10, lB10, lC10, lD10, lE10, lF10, lG10, lH10, lK10, lI10, lJ10, lL10, mr_217_30 H, mr_217_31 H, mr_217_32 H, mr_217_33 H, mr_217_34 H, mr_217_35 H, hM.1, hM.2.1, hM.2.2.1, hM.2.2.2.1, hM.2.2.2.2.1, hM.2.2.2.2.2.1, hM.2.2.2.2.2.2, q1, g1, g2, Bool.true_eq_false, i10, i01, true_or, or_true, false_or, or_false, true_and, and_true, and_false, false_and, not_true_eq_false, not_false_eq_true, if_true, if_false, eq_self, reduceCtorEq, Nat.add_sub_cancel]
  · intro ha
    simp (disch := first | exact mi_217 H | omega) only [f_275_43s, nI_1, nI_add, pk_mul, pk_sub, nI_leI, nI_ltI, nI_eq, nI_clamp, Option.bind_some, ma_b0, ma_p0, if_true, if_false, mE, mF, mI_lt, mI_le, mI_eq, mI_s, nm_le, nm_lt, mn_le, mn_lt, nm_eq, mn_eq, if_pos, if_neg, ma_Ik, ma_R_pI, ma_R_pW, ma_I_pW, ma_1_pI, ma_1_pW, ma_bit, ma_has, ma_shl, fa_or, fa_and, lA0, lB0, lC0, lD0, lE0, lF0, lG0, lH0, lA1, lB1, lC1, lD1, lE1, lF1, lG1, lH1, lK1, lA2, lB2, lC2, lD2, lE2, lF2, lG2, lH2, lK2, lI2, lJ2, lL2, lA5, lB5, lC5, lD5, lE5, lF5, lG5, lH5, lK5, lI5, lJ5, lL5, lA6, lB6, lC6, lD6, lE6, lF6, lG6, lH6, lK6, lI6, lJ6, lL6, lA7, lB7, lC7, lD7, lE7, lF7, lG7, lH7, lK7, lI7, lJ7, lL7, lA10, lB10, lC10, lD10, lE10, lF10, lG10, lH10, lK10, lI10, lJ10, lL10, mr_217_30 H, mr_217_31 H, mr_217_32 H, mr_217_33 H, mr_217_34 H, mr_217_35 H, hM.1, hM.2.1, hM.2.2.1, hM.2.2.2.1, hM.2.2.2.2.1, hM.2.2.2.2.2.1, hM.2.2.2.2.2.2] <;> rfl
theorem m_275l (H : ma_H h) (hM : ma_M h K) (F : ma_of h K) (O : ma_OK K) {k : Nat} (hk : k < K 0 0) (hN : 3000 < N) : ∃ m, m < K 0 0 ∧ sp_rk K m = k ∧ pb_wl (f_275_31s N h 217 (nI k)) N (0, -1, 0) = some (nI m) := by
  have hme := O.1
  have hl : ∃ e, pb_wl (f_275_31s N h 217 (nI k)) N (0, -1, 0) = some e ∧ ∃ m, m < K 0 0 ∧ sp_rk K m = k ∧ e = nI m := by
    refine ma_lh (fun j s => s.2.2 = nI j ∧ ∃ had, s.1 = nI had ∧ had < 64 ∧ ma_cn (fun m => had.testBit m) (K 0 0) = j ∧ (∀ o m, o < K 0 0 → m < K 0 0 → had.testBit m = true → sp_be K o m = true → had.testBit o = true) ∧ (0 < j → ∃ m, m < K 0 0 ∧ sp_rk K m = j - 1 ∧ s.2.1 = nI m)) _ (k + 1) 0 N _ (by omega) (by omega) ?_ ?_ ?_
    · refine ⟨rfl, 0, rfl, by decide, ?_, fun o m _ _ z => by simp at z, fun z => absurd z (by omega)⟩
      refine ma_fo_inv (P := fun _ a => a = 0) rfl _ (fun j a hj ha => ?_)
      simp [ha]
    · rintro j ⟨a, w, i⟩ _ hj ⟨hi, had, h1, h2, h3, h4, _⟩
      dsimp only at hi h1
      subst hi; subst h1
      left
      obtain ⟨p1, p2, p3, p4, p5⟩ := sp_wh_next (by omega) h3 h4
      have e1 := m_275i (N := N) H hM F O h2 hN (nI k) (nI j)
      obtain ⟨z, hz⟩ : ∃ z, sp_wh K had = z + 1 := ⟨sp_wh K had - 1, by omega⟩
      rw [hz, Nat.add_sub_cancel] at p3 p4 p5
      rw [hz, mI_s] at e1
      refine ⟨(nI (had ||| 2 ^ z), nI z, nI (j + 1)), ?_, rfl, had ||| 2 ^ z, rfl, ma_or_lt h2 (by omega), ?_, ?_, fun _ => ⟨z, by omega, by rw [p4]; omega, rfl⟩⟩
      · simp (disch := omega) only [f_275_31s, nI_1, nI_add, pk_mul, pk_sub, nI_leI, nI_ltI, nI_eq, nI_clamp, Option.bind_some, ma_b0, ma_p0, if_true, if_false, mE, mF, mI_lt, mI_le, mI_eq, mI_s, nm_le, nm_lt, mn_le, mn_lt, nm_eq, mn_eq, if_pos, if_neg, ma_Ik, ma_R_pI, ma_R_pW, ma_I_pW, ma_1_pI, ma_1_pW, ma_bit, ma_has, ma_shl, fa_or, fa_and, lA0, lB0, lC0, lD0, lE0, lF0, lG0, lH0, lA1, lB1, lC1, lD1, lE1, lF1, lG1, lH1, lK1, lA2, lB2, lC2, lD2, lE2, lF2, lG2, lH2, lK2, lI2, lJ2, lL2, lA5, lB5, lC5, lD5, lE5, lF5, lG5, lH5, lK5, lI5, lJ5, lL5, lA6, lB6, lC6, lD6, lE6, lF6, lG6, lH6, lK6, lI6, lJ6, lL6, lA7, lB7, lC7, lD7, lE7, lF7, lG7, lH7, lK7, lI7, lJ7, lL7, lA10, lB10, lC10, lD10, lE10, lF10, lG10, lH10, lK10, lI10, lJ10, lL10, e1]
      · have := ma_cn_rm (q := fun m => (had ||| 2 ^ z).testBit m) (g := z) (by rw [ma_tb_or]; simp) (K 0 0) (by omega)
        rw [← this, ← h3]
        congr 1
        refine ma_cn_cong _ (fun m hm => ?_)
        rw [ma_tb_or]
        by_cases e : m = z
        · subst e; simp [p3]
        · simp [e]
      · intro o m ho hm y1 y2
        rw [ma_tb_or] at y1 ⊢
        by_cases e : m = z
        · subst e
          rw [p5 o ho y2]; rfl
        · simp only [e, decide_false, Bool.or_false] at y1
          rw [h4 o m ho hm y1 y2]; rfl
    · rintro ⟨a, w, i⟩ ⟨hi, had, h1, h2, h3, h4, h5⟩
      dsimp only at hi h1 h5
      subst hi; subst h1
      obtain ⟨m, m1, m2, m3⟩ := h5 (by omega)
      refine ⟨w, ?_, m, m1, by omega, m3⟩
      simp (disch := omega) only [f_275_31s, nI_1, nI_add, pk_mul, pk_sub, nI_leI, nI_ltI, nI_eq, nI_clamp, Option.bind_some, ma_b0, ma_p0, if_true, if_false, mE, mF, mI_lt, mI_le, mI_eq, mI_s, nm_le, nm_lt, mn_le, mn_lt, nm_eq, mn_eq, if_pos, if_neg, ma_Ik, ma_R_pI, ma_R_pW, ma_I_pW, ma_1_pI, ma_1_pW, ma_bit, ma_has, ma_shl, fa_or, fa_and, lA0, lB0, lC0, lD0, lE0, lF0, lG0, lH0, lA1, lB1, lC1, lD1, lE1, lF1, lG1, lH1, lK1, lA2, lB2, lC2, lD2, lE2, lF2, lG2, lH2, lK2, lI2, lJ2, lL2, lA5, lB5, lC5, lD5, lE5, lF5, lG5, lH5, lK5, lI5, lJ5, lL5, lA6, lB6, lC6, lD6, lE6, lF6, lG6, lH6, lK6, lI6, lJ6, lL6, lA7, lB7, lC7, lD7, lE7, lF7, lG7, lH7, lK7, lI7, lJ7, lL7, lA10, lB10, lC10, lD10, lE10, lF10, lG10, lH10, lK10, lI10, lJ10, lL10]
  obtain ⟨e, a, m, m1, m2, rfl⟩ := hl
  exact ⟨m, m1, m2, a⟩
end
section
variable {h : pb_HP} {N : Nat}
theorem q_kindest (I : ma_INV h) (hN : 3000 < N) (x y : Int32) : ma_Q0 h (f_147 N h 0 x y) (fun g => f_275 N g 217 x y) := by
  have H := I.1
  have hq : ma_q h (pb_pI h 217 0 0) := ma_q_pI (ma_q_r h) (by decide) 0 0
  rcases ma_W I hN x with ⟨e1, e2⟩ | ⟨c, K, e1, hc, O, OT, V, e2⟩
  · exact ⟨-1, pb_pI h 217 0 0, by simp only [f_147, if_pos (mi_0 H), mr_0_0 H, Option.bind_some, if_pos (mi_1 H), e1], by simp only [f_275, if_pos (mi_217 H), e2 _ hq, Option.bind_some, i10, i01, true_or, or_true, false_or, or_false, true_and, and_true, and_false, false_and, not_true_eq_false, not_false_eq_true, if_true, if_false, eq_self, ma_b0, Bool.false_eq_true, Bool.true_eq_false, reduceCtorEq], hq⟩
  · have hO := O.1
    have hk := c_21 H V O hN y
    cases qm : ma_at y (K 0 0)
    · obtain ⟨g, e3, q3, B⟩ := e2 _ hq
      exact ⟨-1, g, by simp only [f_147, if_pos (mi_0 H), mr_0_0 H, Option.bind_some, if_pos (mi_1 H), e1, if_pos (wv_is H V.1), hk.2 qm, qm, i10, i01, true_or, or_true, false_or, or_false, true_and, and_true, and_false, false_and, not_true_eq_false, not_false_eq_true, if_true, if_false, eq_self, ma_b0, Bool.false_eq_true, Bool.true_eq_false, reduceCtorEq], by simp only [f_275, if_pos (mi_217 H), e3, Option.bind_some, if_pos (mi_217 B.1), m_200 B.1 B.2.1 O, qm, i10, i01, true_or, or_true, false_or, or_false, true_and, and_true, and_false, false_and, not_true_eq_false, not_false_eq_true, if_true, if_false, eq_self, ma_b0, Bool.false_eq_true, Bool.true_eq_false, reduceCtorEq], ma_q_t hq q3⟩
    · obtain ⟨k, hk2, rfl⟩ := ma_at_ex (by omega) qm
      obtain ⟨g, e3, q3, B⟩ := e2 _ hq
      obtain ⟨m, m1, m2, m3⟩ := m_275l (N := N) B.1 B.2.1 B.2.2.1 O hk2 hN
      have z1 := hk.1 m m1 rfl (by rw [m2])
      exact ⟨nI m, g, by simp only [f_147, if_pos (mi_0 H), mr_0_0 H, Option.bind_some, if_pos (mi_1 H), e1, if_pos (wv_is H V.1), z1, i10, i01, true_or, or_true, false_or, or_false, true_and, and_true, and_false, false_and, not_true_eq_false, not_false_eq_true, if_true, if_false, eq_self, ma_b0, Bool.false_eq_true, Bool.true_eq_false, reduceCtorEq], by simp only [f_275, if_pos (mi_217 H), e3, Option.bind_some, if_pos (mi_217 B.1), m_200 B.1 B.2.1 O, qm, m3, i10, i01, true_or, or_true, false_or, or_false, true_and, and_true, and_false, false_and, not_true_eq_false, not_false_eq_true, if_true, if_false, eq_self, ma_b0, Bool.false_eq_true, Bool.true_eq_false, reduceCtorEq], ma_q_t hq q3⟩
end
