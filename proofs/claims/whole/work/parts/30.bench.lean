/-! Benches. -/
def ma_Q {α : Type} (h : pb_HP) (A : Option (α × pb_HP)) (B : pb_HP → Option (α × pb_HP)) : Prop := ∃ r g g2, A = some (r, g) ∧ ma_q h g ∧ B g = some (r, g2) ∧ ma_q g g2
def ma_Q0 {α : Type} (h : pb_HP) (A : Option α) (B : pb_HP → Option (α × pb_HP)) : Prop := ∃ r g2, A = some r ∧ B h = some (r, g2) ∧ ma_q h g2
theorem ma_sub {b w : Nat} (hb : b < 64) (hw : w < 64) : (nI b &&& (nI w ^^^ (-1)) = 0) ↔ b &&& w = b := by
  have : ∀ b w : Fin 64, (nI b.val &&& (nI w.val ^^^ (-1)) = 0) ↔ b.val &&& w.val = b.val := by decide +kernel
  exact this ⟨b, hb⟩ ⟨w, hw⟩
def sp_cl (w c : Nat) : Nat := if w.testBit c then w - 2 ^ c else w
theorem ma_clr {w c : Nat} (hw : w < 64) (hc : c < 6) : nI w &&& (nI (2 ^ c) ^^^ (-1)) = nI (sp_cl w c) := by
  have : ∀ (w : Fin 64) (c : Fin 6), nI w.val &&& (nI (2 ^ c.val) ^^^ (-1)) = nI (sp_cl w.val c.val) := by decide +kernel
  exact this ⟨w, hw⟩ ⟨c, hc⟩
theorem sp_cl_le (w c : Nat) : sp_cl w c ≤ w := by
  unfold sp_cl
  split
  · exact Nat.sub_le _ _
  · exact Nat.le_refl _
theorem m_172m {N a : Nat} (h0 : 0 < a) (h1 : a ≤ 64) (hN : 3000 < N) : f_172 N (mI a) = some (nI (sp_on (a - 1))) := by
  obtain ⟨x, rfl⟩ : ∃ x, a = x + 1 := ⟨a - 1, by omega⟩
  rw [mI_s]; exact m_172 (by omega) hN
theorem m_305m {a : Nat} (h0 : 0 < a) (h1 : a ≤ 64) : f_305 (mI a) = some (nI (sp_on (a - 1))) := by
  obtain ⟨x, rfl⟩ : ∃ x, a = x + 1 := ⟨a - 1, by omega⟩
  rw [mI_s]; exact m_305 (by omega)
theorem c_164 {s : Nat} (hs : s < 64) (t : Int32) : f_164 (nI s) t = some (if t = 0 then nI (sp_on s) else nI s) := by
  unfold f_164
  rw [if_neg (fun q => (mF s (by omega)).mp q), m_305 hs]
  split <;> rfl
theorem c_164m {a : Nat} (ha : a ≤ 64) (t : Int32) : f_164 (mI a) t = some (if a = 0 then -1 else if t = 0 then nI (sp_on (a - 1)) else mI a) := by
  cases a with
  | zero => rfl
  | succ x => rw [mI_s, c_164 (by omega)]; rfl
abbrev sp_bb (big : Bool) (x y : Nat) : Prop := (big = true ∧ x < y) ∨ (big = false ∧ y < x)
theorem sp_bb_t (x y : Nat) : sp_bb true x y ↔ x < y := by simp [sp_bb]
theorem sp_bb_f (x y : Nat) : sp_bb false x y ↔ y < x := by simp [sp_bb]
/-- the greatest, the smallest bench within w by which m is picked: + 1, 0 if none -/
def sp_bgg (pk : Nat → Nat) (w m : Nat) (big : Bool) (s b : Nat) : Nat := if (b = 0 ∨ sp_bb big (sp_on (b - 1)) (sp_on (s + 1))) ∧ (s + 1) &&& w = s + 1 ∧ pk (s + 1) = m then s + 2 else b
def sp_bg (pk : Nat → Nat) (w m : Nat) (big : Bool) : Nat := ma_fo (sp_bgg pk w m big) 63 0
theorem sp_bg_w (pk : Nat → Nat) {w : Nat} (m : Nat) (big : Bool) (hw : w < 64) : sp_bg pk w m big = ma_fo (sp_bgg pk w m big) w 0 := ma_fo_ext (fun j b hj => by
  unfold sp_bgg
  rw [if_neg]
  intro q
  have := Nat.and_le_right (n := j + 1) (m := w)
  omega) 63 (by omega)
theorem sp_bg_le (pk : Nat → Nat) (w m : Nat) (big : Bool) : sp_bg pk w m big ≤ 64 := ma_fo_inv (g := sp_bgg pk w m big) (P := fun j a => a ≤ j + 1) (a0 := 0) (Nat.zero_le _) 63 (fun j a hj ha => by
  unfold sp_bgg; split <;> omega)
def sp_bc (pk : Nat → Nat) (w m : Nat) : Nat := ma_fo (fun s a => if (s + 1) &&& w = s + 1 ∧ pk (s + 1) = m then a + 1 else a) 63 0
theorem sp_bc_w (pk : Nat → Nat) {w : Nat} (m : Nat) (hw : w < 64) : sp_bc pk w m = ma_fo (fun s a => if (s + 1) &&& w = s + 1 ∧ pk (s + 1) = m then a + 1 else a) w 0 := ma_fo_ext (fun j b hj => by
  rw [if_neg]
  intro q
  have := Nat.and_le_right (n := j + 1) (m := w)
  omega) 63 (by omega)
/-- a fold from 0 on is one from 1 on, if the first changes nothing -/
theorem ma_fo_1 {A : Type} {g : Nat → A → A} {a : A} (e : g 0 a = a) : ∀ n, ma_fo g (n + 1) a = ma_fo (fun j => g (j + 1)) n a
  | 0 => e
  | n + 1 => by
    show g (n + 1) (ma_fo g (n + 1) a) = g (n + 1) (ma_fo (fun j => g (j + 1)) n a)
    rw [ma_fo_1 e n]
def sp_dc (pk : Nat → Nat) (w c : Nat) : Nat := ma_fo (fun s a => if s &&& w = s ∧ pk s ≠ pk (s ||| 2 ^ c) then a + 1 else a) 64 0
theorem sp_dc_w (pk : Nat → Nat) {w x : Nat} (c : Nat) (hw : w ≤ x) (hx : x < 64) : sp_dc pk w c = ma_fo (fun s a => if s &&& w = s ∧ pk s ≠ pk (s ||| 2 ^ c) then a + 1 else a) (x + 1) 0 := ma_fo_ext (fun j b hj => by
  rw [if_neg]
  intro q
  have := Nat.and_le_right (n := j) (m := w)
  omega) 64 (by omega)
section
variable {h : pb_HP} {N o : Nat} {pk : Nat → Nat} {w m : Nat}
theorem c_79 (ho : pb_is h o 5) (hw : w < 64) (hv : pb_I h o 0 = nI w) (hk : ∀ b, b < 64 → f_77 N h o (nI b) = some (nI (pk b))) (hp : ∀ b, pk b ≤ 6) (hm : m < 6) (hN : 3000 < N) : f_79 N h o (nI m) = some (mI (sp_bg pk w m true)) := by
  rw [sp_bg_w pk m true hw]
  have hl : pb_wl (f_79_4s N h o (nI m)) N (-1, 1) = some (mI (ma_fo (sp_bgg pk w m true) w 0)) := by
    refine ma_lp (fun j a => (mI a, nI (j + 1))) (sp_bgg pk w m true) (fun _ a => a ≤ 64) w (a0 := 0) (by omega) (by decide) rfl (fun j a hj ha => ⟨?_, ?_⟩) ?_
    · unfold sp_bgg; split <;> omega
    · have b1 := sp_on_le (j + 1)
      have b2 := sp_on_le (a - 1)
      have b3 := hp (j + 1)
      have e1 := m_305 (s := j + 1) (by omega)
      unfold sp_bgg
      simp only [sp_bb_t]
      by_cases q1 : (j + 1) &&& w = j + 1 <;> by_cases q2 : pk (j + 1) = m <;> by_cases q3 : a = 0
      all_goals first
        | (subst q3; simp (disch := first | exact ho | omega) only [f_79_4s, f_78, nI_1, nI_add, pk_mul, pk_sub, nI_leI, nI_ltI, nI_eq, nI_clamp, Option.bind_some, ma_b0, ma_p0, if_true, if_false, mE, mF, mI_lt, mI_le, mI_eq, mI_s, nm_le, nm_lt, mn_le, mn_lt, nm_eq, mn_eq, if_pos, if_neg, ma_Ik, ma_R_pI, ma_R_pW, ma_I_pW, ma_1_pI, ma_1_pW, ma_bit, ma_has, ma_shl, fa_or, fa_and, lA0, lB0, lC0, lD0, lE0, lF0, lG0, lH0, lA1, lB1, lC1, lD1, lE1, lF1, lG1, lH1, lK1, hv, ma_sub, hk, q1, q2, mI_0, i10, i01, true_or, or_true, false_or, or_false, true_and, and_true, and_false, false_and, not_true_eq_false, not_false_eq_true, if_true, if_false, eq_self]; done)
        | (have e2 := m_305m (a := a) (by omega) (by omega)
           rcases Nat.lt_or_ge (sp_on (a - 1)) (sp_on (j + 1)) with q4 | q4 <;>
           simp (disch := first | exact ho | omega) only [f_79_4s, f_78, nI_1, nI_add, pk_mul, pk_sub, nI_leI, nI_ltI, nI_eq, nI_clamp, Option.bind_some, ma_b0, ma_p0, if_true, if_false, mE, mF, mI_lt, mI_le, mI_eq, mI_s, nm_le, nm_lt, mn_le, mn_lt, nm_eq, mn_eq, if_pos, if_neg, ma_Ik, ma_R_pI, ma_R_pW, ma_I_pW, ma_1_pI, ma_1_pW, ma_bit, ma_has, ma_shl, fa_or, fa_and, lA0, lB0, lC0, lD0, lE0, lF0, lG0, lH0, lA1, lB1, lC1, lD1, lE1, lF1, lG1, lH1, lK1, hv, ma_sub, hk, q1, q2, q3, e1, e2, i10, i01, true_or, or_true, false_or, or_false, true_and, and_true, and_false, false_and, not_true_eq_false, not_false_eq_true, if_true, if_false, eq_self]; done)
    · intro ha
      simp (disch := first | exact ho | omega) only [f_79_4s, nI_1, nI_add, pk_mul, pk_sub, nI_leI, nI_ltI, nI_eq, nI_clamp, Option.bind_some, ma_b0, ma_p0, if_true, if_false, mE, mF, mI_lt, mI_le, mI_eq, mI_s, nm_le, nm_lt, mn_le, mn_lt, nm_eq, mn_eq, if_pos, if_neg, ma_Ik, ma_R_pI, ma_R_pW, ma_I_pW, ma_1_pI, ma_1_pW, ma_bit, ma_has, ma_shl, fa_or, fa_and, hv]
  simp only [f_79, hl, Option.bind_some]
theorem c_80 (ho : pb_is h o 5) (hw : w < 64) (hv : pb_I h o 0 = nI w) (hk : ∀ b, b < 64 → f_77 N h o (nI b) = some (nI (pk b))) (hp : ∀ b, pk b ≤ 6) (hm : m < 6) (hN : 3000 < N) : f_80 N h o (nI m) = some (mI (sp_bg pk w m false)) := by
  rw [sp_bg_w pk m false hw]
  have hl : pb_wl (f_80_4s N h o (nI m)) N (-1, 1) = some (mI (ma_fo (sp_bgg pk w m false) w 0)) := by
    refine ma_lp (fun j a => (mI a, nI (j + 1))) (sp_bgg pk w m false) (fun _ a => a ≤ 64) w (a0 := 0) (by omega) (by decide) rfl (fun j a hj ha => ⟨?_, ?_⟩) ?_
    · unfold sp_bgg; split <;> omega
    · have b1 := sp_on_le (j + 1)
      have b2 := sp_on_le (a - 1)
      have b3 := hp (j + 1)
      have e1 := m_305 (s := j + 1) (by omega)
      unfold sp_bgg
      simp only [sp_bb_f]
      by_cases q1 : (j + 1) &&& w = j + 1 <;> by_cases q2 : pk (j + 1) = m <;> by_cases q3 : a = 0
      all_goals first
        | (subst q3; simp (disch := first | exact ho | omega) only [f_80_4s, f_78, nI_1, nI_add, pk_mul, pk_sub, nI_leI, nI_ltI, nI_eq, nI_clamp, Option.bind_some, ma_b0, ma_p0, if_true, if_false, mE, mF, mI_lt, mI_le, mI_eq, mI_s, nm_le, nm_lt, mn_le, mn_lt, nm_eq, mn_eq, if_pos, if_neg, ma_Ik, ma_R_pI, ma_R_pW, ma_I_pW, ma_1_pI, ma_1_pW, ma_bit, ma_has, ma_shl, fa_or, fa_and, lA0, lB0, lC0, lD0, lE0, lF0, lG0, lH0, lA1, lB1, lC1, lD1, lE1, lF1, lG1, lH1, lK1, hv, ma_sub, hk, q1, q2, mI_0, i10, i01, true_or, or_true, false_or, or_false, true_and, and_true, and_false, false_and, not_true_eq_false, not_false_eq_true, if_true, if_false, eq_self]; done)
        | (have e2 := m_305m (a := a) (by omega) (by omega)
           rcases Nat.lt_or_ge (sp_on (j + 1)) (sp_on (a - 1)) with q4 | q4 <;>
           simp (disch := first | exact ho | omega) only [f_80_4s, f_78, nI_1, nI_add, pk_mul, pk_sub, nI_leI, nI_ltI, nI_eq, nI_clamp, Option.bind_some, ma_b0, ma_p0, if_true, if_false, mE, mF, mI_lt, mI_le, mI_eq, mI_s, nm_le, nm_lt, mn_le, mn_lt, nm_eq, mn_eq, if_pos, if_neg, ma_Ik, ma_R_pI, ma_R_pW, ma_I_pW, ma_1_pI, ma_1_pW, ma_bit, ma_has, ma_shl, fa_or, fa_and, lA0, lB0, lC0, lD0, lE0, lF0, lG0, lH0, lA1, lB1, lC1, lD1, lE1, lF1, lG1, lH1, lK1, hv, ma_sub, hk, q1, q2, q3, e1, e2, i10, i01, true_or, or_true, false_or, or_false, true_and, and_true, and_false, false_and, not_true_eq_false, not_false_eq_true, if_true, if_false, eq_self]; done)
    · intro ha
      simp (disch := first | exact ho | omega) only [f_80_4s, nI_1, nI_add, pk_mul, pk_sub, nI_leI, nI_ltI, nI_eq, nI_clamp, Option.bind_some, ma_b0, ma_p0, if_true, if_false, mE, mF, mI_lt, mI_le, mI_eq, mI_s, nm_le, nm_lt, mn_le, mn_lt, nm_eq, mn_eq, if_pos, if_neg, ma_Ik, ma_R_pI, ma_R_pW, ma_I_pW, ma_1_pI, ma_1_pW, ma_bit, ma_has, ma_shl, fa_or, fa_and, hv]
  simp only [f_80, hl, Option.bind_some]
theorem c_81 (ho : pb_is h o 5) (hw : w < 64) (hv : pb_I h o 0 = nI w) (hk : ∀ b, b < 64 → f_77 N h o (nI b) = some (nI (pk b))) (hp : ∀ b, pk b ≤ 6) (hm : m < 6) (hN : 3000 < N) : f_81 N h o (nI m) = some (nI (sp_bc pk w m)) := by
  rw [sp_bc_w pk m hw]
  have hl : pb_wl (f_81_4s N h o (nI m)) N (0, 1) = some (nI (ma_fo (fun s a => if (s + 1) &&& w = s + 1 ∧ pk (s + 1) = m then a + 1 else a) w 0)) := by
    refine ma_lq (fun j a => (nI a, nI (j + 1))) (fun s a => if (s + 1) &&& w = s + 1 ∧ pk (s + 1) = m then a + 1 else a) w (a0 := 0) (by omega) rfl (fun j a hj => ?_) ?_
    · have b3 := hp (j + 1)
      by_cases q1 : (j + 1) &&& w = j + 1 <;> by_cases q2 : pk (j + 1) = m <;> simp (disch := first | exact ho | omega) only [f_81_4s, f_78, nI_1, nI_add, pk_mul, pk_sub, nI_leI, nI_ltI, nI_eq, nI_clamp, Option.bind_some, ma_b0, ma_p0, if_true, if_false, mE, mF, mI_lt, mI_le, mI_eq, mI_s, nm_le, nm_lt, mn_le, mn_lt, nm_eq, mn_eq, if_pos, if_neg, ma_Ik, ma_R_pI, ma_R_pW, ma_I_pW, ma_1_pI, ma_1_pW, ma_bit, ma_has, ma_shl, fa_or, fa_and, lA0, lB0, lC0, lD0, lE0, lF0, lG0, lH0, lA1, lB1, lC1, lD1, lE1, lF1, lG1, lH1, lK1, hv, ma_sub, hk, q1, q2, i10, i01, true_or, or_true, false_or, or_false, true_and, and_true, and_false, false_and, not_true_eq_false, not_false_eq_true, if_true, if_false, eq_self]
    · simp (disch := first | exact ho | omega) only [f_81_4s, nI_1, nI_add, pk_mul, pk_sub, nI_leI, nI_ltI, nI_eq, nI_clamp, Option.bind_some, ma_b0, ma_p0, if_true, if_false, mE, mF, mI_lt, mI_le, mI_eq, mI_s, nm_le, nm_lt, mn_le, mn_lt, nm_eq, mn_eq, if_pos, if_neg, ma_Ik, ma_R_pI, ma_R_pW, ma_I_pW, ma_1_pI, ma_1_pW, ma_bit, ma_has, ma_shl, fa_or, fa_and, hv]
  simp only [f_81, hl, Option.bind_some]
theorem c_82 {c : Nat} (hc : c < 6) (ho : pb_is h o 5) (hw : w < 64) (hv : pb_I h o 0 = nI w) (hk : ∀ b, b < 64 → f_77 N h o (nI b) = some (nI (pk b))) (hp : ∀ b, pk b ≤ 6) (hN : 3000 < N) : f_82 N h o (nI c) = some (nI (sp_dc pk (sp_cl w c) c)) := by
  have hcl := sp_cl_le w c
  rw [sp_dc_w pk c hcl hw]
  have hl : pb_wl (f_82_9s N h o (nI (2 ^ c))) N (0, 0) = some (nI (ma_fo (fun s a => if s &&& sp_cl w c = s ∧ pk s ≠ pk (s ||| 2 ^ c) then a + 1 else a) (w + 1) 0)) := by
    refine ma_lq (fun j a => (nI a, nI j)) (fun s a => if s &&& sp_cl w c = s ∧ pk s ≠ pk (s ||| 2 ^ c) then a + 1 else a) (w + 1) (a0 := 0) (by omega) rfl (fun j a hj => ?_) ?_
    · have b3 := hp j
      have b4 := hp (j ||| 2 ^ c)
      have b5 := ma_or_lt (a := j) (by omega) hc
      by_cases q1 : j &&& sp_cl w c = j <;> by_cases q2 : pk j = pk (j ||| 2 ^ c) <;> simp (disch := first | exact ho | omega) only [f_82_9s, f_78, nI_1, nI_add, pk_mul, pk_sub, nI_leI, nI_ltI, nI_eq, nI_clamp, Option.bind_some, ma_b0, ma_p0, if_true, if_false, mE, mF, mI_lt, mI_le, mI_eq, mI_s, nm_le, nm_lt, mn_le, mn_lt, nm_eq, mn_eq, if_pos, if_neg, ma_Ik, ma_R_pI, ma_R_pW, ma_I_pW, ma_1_pI, ma_1_pW, ma_bit, ma_has, ma_shl, fa_or, fa_and, lA0, lB0, lC0, lD0, lE0, lF0, lG0, lH0, lA1, lB1, lC1, lD1, lE1, lF1, lG1, lH1, lK1, hv, ma_clr hw hc, ma_sub, hk, q1, q2, i10, i01, true_or, or_true, false_or, or_false, true_and, and_true, and_false, false_and, not_true_eq_false, not_false_eq_true, if_true, if_false, eq_self, ne_eq]
    · simp (disch := first | exact ho | omega) only [f_82_9s, nI_1, nI_add, pk_mul, pk_sub, nI_leI, nI_ltI, nI_eq, nI_clamp, Option.bind_some, ma_b0, ma_p0, if_true, if_false, mE, mF, mI_lt, mI_le, mI_eq, mI_s, nm_le, nm_lt, mn_le, mn_lt, nm_eq, mn_eq, if_pos, if_neg, ma_Ik, ma_R_pI, ma_R_pW, ma_I_pW, ma_1_pI, ma_1_pW, ma_bit, ma_has, ma_shl, fa_or, fa_and, hv]
  simp only [f_82, ma_shl (show c < 31 by omega), hl, Option.bind_some]
end
section
variable {h : pb_HP} {N : Nat} {pk : Nat → Nat} {w m : Nat}
theorem m_230l (H : ma_H h) (hw : w < 64) (hk : ∀ b, b < 64 → f_209 N h 217 (nI b) = some (nI (pk b))) (hp : ∀ b, pk b ≤ 6) (hm : m < 6) (hN : 3000 < N) (big : Bool) : pb_wl (f_230_15s N h 217 (nI m) (if big then 1 else 0) (nI w)) N (-1, 1) = some (mI (sp_bg pk w m big)) := by
  refine ma_lp (fun j a => (mI a, nI (j + 1))) (sp_bgg pk w m big) (fun _ a => a ≤ 64) 63 (a0 := 0) (by omega) (by decide) rfl (fun j a hj ha => ⟨?_, ?_⟩) ?_
  · unfold sp_bgg; split <;> omega
  · have b1 := sp_on_le (j + 1)
    have b2 := sp_on_le (a - 1)
    have b3 := hp (j + 1)
    have e1 := m_172 (N := N) (s := j + 1) (by omega) hN
    unfold sp_bgg
    cases big
    all_goals simp only [sp_bb_t, sp_bb_f, Bool.false_eq_true, if_false, if_true]
    all_goals by_cases q1 : (j + 1) &&& w = j + 1 <;> by_cases q2 : pk (j + 1) = m <;> by_cases q3 : a = 0
    all_goals first
      | (subst q3; simp (disch := first | exact mi_217 H | omega) only [f_230_15s, f_230_66, nI_1, nI_add, pk_mul, pk_sub, nI_leI, nI_ltI, nI_eq, nI_clamp, Option.bind_some, ma_b0, ma_p0, if_true, if_false, mE, mF, mI_lt, mI_le, mI_eq, mI_s, nm_le, nm_lt, mn_le, mn_lt, nm_eq, mn_eq, if_pos, if_neg, ma_Ik, ma_R_pI, ma_R_pW, ma_I_pW, ma_1_pI, ma_1_pW, ma_bit, ma_has, ma_shl, fa_or, fa_and, lA0, lB0, lC0, lD0, lE0, lF0, lG0, lH0, lA1, lB1, lC1, lD1, lE1, lF1, lG1, lH1, lK1, lA64, lB64, lC64, lD64, lE64, lF64, lG64, lH64, lK64, lI64, lJ64, lL64, ma_sub, hk, q1, q2, mI_0, i10, i01, true_or, or_true, false_or, or_false, true_and, and_true, and_false, false_and, not_true_eq_false, not_false_eq_true, if_true, if_false, eq_self]; done)
      | (have e2 := m_172m (N := N) (a := a) (by omega) (by omega) hN
         rcases Nat.lt_trichotomy (sp_on (a - 1)) (sp_on (j + 1)) with q4 | q4 | q4 <;>
         simp (disch := first | exact mi_217 H | omega) only [f_230_15s, f_230_66, nI_1, nI_add, pk_mul, pk_sub, nI_leI, nI_ltI, nI_eq, nI_clamp, Option.bind_some, ma_b0, ma_p0, if_true, if_false, mE, mF, mI_lt, mI_le, mI_eq, mI_s, nm_le, nm_lt, mn_le, mn_lt, nm_eq, mn_eq, if_pos, if_neg, ma_Ik, ma_R_pI, ma_R_pW, ma_I_pW, ma_1_pI, ma_1_pW, ma_bit, ma_has, ma_shl, fa_or, fa_and, lA0, lB0, lC0, lD0, lE0, lF0, lG0, lH0, lA1, lB1, lC1, lD1, lE1, lF1, lG1, lH1, lK1, lA64, lB64, lC64, lD64, lE64, lF64, lG64, lH64, lK64, lI64, lJ64, lL64, ma_sub, hk, q1, q2, q3, e1, e2, i10, i01, true_or, or_true, false_or, or_false, true_and, and_true, and_false, false_and, not_true_eq_false, not_false_eq_true, if_true, if_false, eq_self]; done)
  · intro ha
    simp (disch := omega) only [f_230_15s, nI_1, nI_add, pk_mul, pk_sub, nI_leI, nI_ltI, nI_eq, nI_clamp, Option.bind_some, ma_b0, ma_p0, if_true, if_false, mE, mF, mI_lt, mI_le, mI_eq, mI_s, nm_le, nm_lt, mn_le, mn_lt, nm_eq, mn_eq, if_pos, if_neg, ma_Ik, ma_R_pI, ma_R_pW, ma_I_pW, ma_1_pI, ma_1_pW, ma_bit, ma_has, ma_shl, fa_or, fa_and, lA64, lB64, lC64, lD64, lE64, lF64, lG64, lH64, lK64, lI64, lJ64, lL64] <;> rfl
theorem m_271l (H : ma_H h) (hw : w < 64) (hk : ∀ b, b < 64 → f_209 N h 217 (nI b) = some (nI (pk b))) (hp : ∀ b, pk b ≤ 6) (h0 : pk 0 = 6) (hm : m < 6) (hN : 3000 < N) : pb_wl (f_271_38s N h 217 (nI m) (nI w)) N (0, 0) = some (nI (sp_bc pk w m)) := by
  have e : sp_bc pk w m = ma_fo (fun s a => if s &&& w = s ∧ pk s = m then a + 1 else a) 64 0 := (ma_fo_1 (g := fun s a => if s &&& w = s ∧ pk s = m then a + 1 else a) (a := 0) (by rw [if_neg]; rw [h0]; omega) 63).symm
  rw [e]
  refine ma_lq (fun j a => (nI a, nI j)) (fun s a => if s &&& w = s ∧ pk s = m then a + 1 else a) 64 (a0 := 0) (by omega) rfl (fun j a hj => ?_) rfl
  have b3 := hp j
  by_cases q1 : j &&& w = j <;> by_cases q2 : pk j = m <;> simp (disch := first | exact mi_217 H | omega) only [f_271_38s, nI_1, nI_add, pk_mul, pk_sub, nI_leI, nI_ltI, nI_eq, nI_clamp, Option.bind_some, ma_b0, ma_p0, if_true, if_false, mE, mF, mI_lt, mI_le, mI_eq, mI_s, nm_le, nm_lt, mn_le, mn_lt, nm_eq, mn_eq, if_pos, if_neg, ma_Ik, ma_R_pI, ma_R_pW, ma_I_pW, ma_1_pI, ma_1_pW, ma_bit, ma_has, ma_shl, fa_or, fa_and, lA0, lB0, lC0, lD0, lE0, lF0, lG0, lH0, lA1, lB1, lC1, lD1, lE1, lF1, lG1, lH1, lK1, lA64, lB64, lC64, lD64, lE64, lF64, lG64, lH64, lK64, lI64, lJ64, lL64, ma_sub, hk, q1, q2, i10, i01, true_or, or_true, false_or, or_false, true_and, and_true, and_false, false_and, not_true_eq_false, not_false_eq_true, if_true, if_false, eq_self]
theorem m_235l {c : Nat} (hc : c < 6) (H : ma_H h) (hw : w < 64) (hk : ∀ b, b < 64 → f_209 N h 217 (nI b) = some (nI (pk b))) (hp : ∀ b, pk b ≤ 6) (hN : 3000 < N) (t : Int32) : pb_wl (f_235_55s N h 217 (nI c) t (nI w)) N (0, 0) = some (lN (sp_dc pk w c)) := by
  refine ma_lq (fun j a => (lN a, nI j)) (fun s a => if s &&& w = s ∧ pk s ≠ pk (s ||| 2 ^ c) then a + 1 else a) 64 (a0 := 0) (by omega) rfl (fun j a hj => ?_) rfl
  have b3 := hp j
  have b4 := hp (j ||| 2 ^ c)
  have b5 := ma_or_lt (a := j) (by omega) hc
  have e0 : lN a + 0 = lN a := lN_add a 0
  by_cases q1 : j &&& w = j <;> by_cases q2 : pk j = pk (j ||| 2 ^ c) <;> simp (disch := first | exact mi_217 H | omega) only [f_235_55s, f_235_77, nI_1, nI_add, pk_mul, pk_sub, nI_leI, nI_ltI, nI_eq, nI_clamp, Option.bind_some, ma_b0, ma_p0, if_true, if_false, mE, mF, mI_lt, mI_le, mI_eq, mI_s, nm_le, nm_lt, mn_le, mn_lt, nm_eq, mn_eq, if_pos, if_neg, ma_Ik, ma_R_pI, ma_R_pW, ma_I_pW, ma_1_pI, ma_1_pW, ma_bit, ma_has, ma_shl, fa_or, fa_and, lA0, lB0, lC0, lD0, lE0, lF0, lG0, lH0, lA1, lB1, lC1, lD1, lE1, lF1, lG1, lH1, lK1, lA64, lB64, lC64, lD64, lE64, lF64, lG64, lH64, lK64, lI64, lJ64, lL64, ma_sub, hk, q1, q2, e0, lN_1, i10, i01, true_or, or_true, false_or, or_false, true_and, and_true, and_false, false_and, not_true_eq_false, not_false_eq_true, if_true, if_false, eq_self, ne_eq]
end
