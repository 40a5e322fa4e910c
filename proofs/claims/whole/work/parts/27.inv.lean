/-! What is told, on both sides; what a query may change. -/
abbrev ma_ps (o : Nat) : Prop := o ≤ 162 ∨ o = 214 ∨ (218 ≤ o ∧ o ≤ 225) ∨ o = 240
def ma_q (h g : pb_HP) : Prop := g.1 = h.1 ∧ pb_R g = pb_R h ∧ ∀ o, ma_ps o → pb_I g o = pb_I h o
theorem ma_q_r (h : pb_HP) : ma_q h h := ⟨rfl, rfl, fun _ _ => rfl⟩
theorem ma_q_t {h g k : pb_HP} (a : ma_q h g) (b : ma_q g k) : ma_q h k := ⟨b.1.trans a.1, b.2.1.trans a.2.1, fun o ho => (b.2.2 o ho).trans (a.2.2 o ho)⟩
theorem ma_q_fr {L : List Nat} {h g : pb_HP} (f : ma_fr L [] h g) (hL : ∀ o, o ∈ L → ¬ ma_ps o) : ma_q h g := ⟨f.1, f.2.1, fun o ho => ma_fr_o f (fun q => hL o q ho) (by simp)⟩
theorem ma_q_pI {h g : pb_HP} (a : ma_q h g) {o : Nat} (ho : ¬ ma_ps o) (k : Nat) (v : Int32) : ma_q h (pb_pI g o k v) := ⟨a.1, a.2.1, fun p hp => by
  rw [ma_I_pI, if_neg (fun e : p = o => ho (e ▸ hp))]; exact a.2.2 p hp⟩
theorem ma_q_pW {h g : pb_HP} (a : ma_q h g) {o : Nat} (ho : ¬ ma_ps o) (f : Nat → Int32) : ma_q h (pb_pW g o f) := ⟨a.1, a.2.1, fun p hp => by
  rw [ma_I_pW, if_neg (fun e : p = o => ho (e ▸ hp))]; exact a.2.2 p hp⟩
theorem ma_H_q {h g : pb_HP} (H : ma_H h) (q : ma_q h g) : ma_H g := ⟨q.1.trans H.1, fun o k z => by rw [q.2.1]; exact H.2 o k z⟩
abbrev ma_Y : Type := Nat × (Nat → Nat → Int32)
def ma_lt (l cap : Nat) : Prop := l + 4 < 241 ∧ l ≠ 163 ∧ pb_SH l = (4, 0) ∧ pb_SH (l + 1) = (12, cap) ∧ pb_SH (l + 2) = (12, cap) ∧ pb_SH (l + 3) = (12, cap) ∧ pb_SH (l + 4) = (12, cap) ∧ ma_RT l 1 = some (l + 1) ∧ ma_RT l 2 = some (l + 2) ∧ ma_RT l 3 = some (l + 3) ∧ ma_RT l 4 = some (l + 4)
/-- a row of lines of the developers' own -/
def ma_L (h : pb_HP) (l cap nb : Nat) (Y : ma_Y) : Prop := ma_lt l cap ∧ pb_I h l 0 = nI Y.1 ∧ pb_I h l 5 = nI nb ∧ ∀ j, j < Y.1 → pb_I h (l + 1) j = Y.2 j 0 ∧ pb_I h (l + 2) j = Y.2 j 1 ∧ pb_I h (l + 3) j = Y.2 j 2 ∧ (nb = 3 → pb_I h (l + 4) j = Y.2 j 3)
/-- the model's -/
def ma_Ly (h : pb_HP) (o b w : Nat) (Y : ma_Y) : Prop := pb_I h o b = nI Y.1 ∧ ∀ j i, j < Y.1 → i < w → pb_I h o (b + 1 + w * j + i) = Y.2 j i
def ma_gd (d : Nat → Int32) : Prop := ∃ q, d 0 = nI q ∧ q ≤ 6 ∧ (q < 5 → ∃ a, a < 6 ∧ d 1 = nI a) ∧ (q < 4 → ∃ a, a < 6 ∧ d 2 = nI a) ∧ (q = 3 → ∃ a, 1 ≤ a ∧ a ≤ 9 ∧ d 3 = nI a)
def ma_gf (d : Nat → Int32) : Prop := ∃ q a b, d 0 = nI q ∧ q ≤ 1 ∧ d 1 = nI a ∧ a < 64 ∧ d 2 = nI b ∧ b < 64
/-- all that is told: counties, years, logs, how many, the tape, its length, fault, place + 1 -/
abbrev ma_X : Type := (Nat → ma_K) × (Nat → ma_Y) × (Nat → ma_Y) × (Nat → Nat) × (Nat → Int32) × Nat × Nat × Nat
def ma_CX (h : pb_HP) (t : Nat) (X : ma_X) : Prop := (∀ k, k < 2 → ma_V h (t + 2 + 7 * k) (X.1 k)) ∧ (∀ k, k < 2 → ma_L h (t + 17 + 5 * k) 40 3 (X.2.1 k)) ∧ (∀ k, k < 2 → ma_L h (t + 28 + 5 * k) 8 2 (X.2.2.1 k)) ∧ (∀ s, s < 3 → pb_I h (t + 38) s = nI (X.2.2.2.1 s)) ∧ (∀ j, j < 600 → pb_I h (t + 39) j = X.2.2.2.2.1 j) ∧ pb_I h t 5 = nI X.2.2.2.2.2.1 ∧ pb_I h t 6 = nI X.2.2.2.2.2.2.1 ∧ pb_I h t 7 = mI X.2.2.2.2.2.2.2
def ma_MX (h : pb_HP) (i : Nat) (X : ma_X) : Prop := (∀ k, k < 2 → ma_T h (2 * i + k) (X.1 k)) ∧ (∀ k, k < 2 → ma_Ly h 224 (161 * (2 * i + k)) 4 (X.2.1 k)) ∧ (∀ k, k < 2 → ma_Ly h 225 (25 * (2 * i + k)) 3 (X.2.2.1 k)) ∧ (∀ s, s < 3 → pb_I h 222 (3 * i + s) = nI (X.2.2.2.1 s)) ∧ (∀ j, j < 600 → pb_I h 218 (600 * i + j) = X.2.2.2.2.1 j) ∧ pb_I h 219 i = nI X.2.2.2.2.2.1 ∧ pb_I h 220 i = nI X.2.2.2.2.2.2.1 ∧ pb_I h 221 i = mI X.2.2.2.2.2.2.2
def ma_OT (K : ma_K) : Prop := ∀ k, K 3 k ≤ 20 ∧ K 6 k ≤ 9
def ma_GX (X : ma_X) : Prop := (∀ k, k < 2 → ma_OK (X.1 k) ∧ ma_OT (X.1 k)) ∧ (∀ k, k < 2 → (X.2.1 k).1 ≤ 40 ∧ ∀ j, j < (X.2.1 k).1 → ma_gd ((X.2.1 k).2 j)) ∧ (∀ k, k < 2 → (X.2.2.1 k).1 ≤ 8 ∧ ∀ j, j < (X.2.2.1 k).1 → ma_gf ((X.2.2.1 k).2 j)) ∧ (∀ s, s < 3 → X.2.2.2.1 s ≤ 2) ∧ (∀ j, j < 600 → (X.2.2.2.2.1 j).toInt8.toInt32 = X.2.2.2.2.1 j) ∧ X.2.2.2.2.2.1 ≤ 600 ∧ X.2.2.2.2.2.2.1 ≤ 4 ∧ X.2.2.2.2.2.2.2 ≤ 601
def sp_dg (n t : Nat) : Nat := n / 3 ^ (5 - t) % 3
def sp_mk (n : Nat) : Nat := ma_fo (fun t a => a + (if 1 ≤ sp_dg n t then 2 ^ t else 0) + (if sp_dg n t = 2 then 2 ^ (t + 6) else 0)) 6 0
def ma_INV (h : pb_HP) : Prop := ma_H h ∧ (∃ X, ma_GX X ∧ ma_CX h 1 X ∧ ma_MX h 0 X) ∧ (∀ i, i < 3 → ∃ (b : Bool) (X : ma_X), pb_I h 162 i = (if b then 1 else 0) ∧ pb_I h 240 i = (if b then 1 else 0) ∧ ma_GX X ∧ ma_CX h (42 + 40 * i) X ∧ (b = true → ma_MX h (i + 1) X)) ∧ ∀ n, n < 729 → pb_I h 214 n = nI (sp_mk n)
theorem ma_V_e {h g : pb_HP} {c : Nat} {K : ma_K} (V : ma_V h c K) (e : ∀ o, c ≤ o → o ≤ c + 6 → pb_I g o = pb_I h o) : ma_V g c K := by
  unfold ma_V
  rw [e c (by omega) (by omega), e (c + 1) (by omega) (by omega), e (c + 2) (by omega) (by omega), e (c + 3) (by omega) (by omega), e (c + 4) (by omega) (by omega), e (c + 5) (by omega) (by omega), e (c + 6) (by omega) (by omega)]
  exact V
theorem ma_L_e {h g : pb_HP} {l cap nb : Nat} {Y : ma_Y} (V : ma_L h l cap nb Y) (e : ∀ o, l ≤ o → o ≤ l + 4 → pb_I g o = pb_I h o) : ma_L g l cap nb Y := by
  unfold ma_L
  rw [e l (by omega) (by omega), e (l + 1) (by omega) (by omega), e (l + 2) (by omega) (by omega), e (l + 3) (by omega) (by omega), e (l + 4) (by omega) (by omega)]
  exact V
theorem ma_CX_e {h g : pb_HP} {t : Nat} {X : ma_X} (V : ma_CX h t X) (e : ∀ o, t ≤ o → o ≤ t + 39 → pb_I g o = pb_I h o) : ma_CX g t X := by
  refine ⟨fun k hk => ma_V_e (V.1 k hk) (fun o a b => e o (by omega) (by omega)), fun k hk => ma_L_e (V.2.1 k hk) (fun o a b => e o (by omega) (by omega)), fun k hk => ma_L_e (V.2.2.1 k hk) (fun o a b => e o (by omega) (by omega)), ?_⟩
  rw [e (t + 38) (by omega) (by omega), e (t + 39) (by omega) (by omega), e t (by omega) (by omega)]
  exact V.2.2.2
theorem ma_T_e {h g : pb_HP} {k : Nat} {K : ma_K} (V : ma_T h k K) (e : pb_I g 223 = pb_I h 223) : ma_T g k K := by
  unfold ma_T; rw [e]; exact V
theorem ma_MX_e {h g : pb_HP} {i : Nat} {X : ma_X} (V : ma_MX h i X) (e : ∀ o, 218 ≤ o → o ≤ 225 → pb_I g o = pb_I h o) : ma_MX g i X := by
  unfold ma_MX ma_T ma_Ly
  rw [e 218 (by omega) (by omega), e 219 (by omega) (by omega), e 220 (by omega) (by omega), e 221 (by omega) (by omega), e 222 (by omega) (by omega), e 223 (by omega) (by omega), e 224 (by omega) (by omega), e 225 (by omega) (by omega)]
  exact V
theorem ma_INV_q {h g : pb_HP} (I : ma_INV h) (q : ma_q h g) : ma_INV g := by
  obtain ⟨H, ⟨X, G, c, m⟩, im, mk⟩ := I
  refine ⟨ma_H_q H q, ⟨X, G, ma_CX_e c (fun o a b => q.2.2 o (by omega)), ma_MX_e m (fun o a b => q.2.2 o (by omega))⟩, fun i hi => ?_, ?_⟩
  · obtain ⟨b, X, e1, e2, G, c, m⟩ := im i hi
    refine ⟨b, X, ?_, ?_, G, ma_CX_e c (fun o a b => q.2.2 o (by omega)), fun hb => ma_MX_e (m hb) (fun o a b => q.2.2 o (by omega))⟩
    · rw [q.2.2 162 (by omega)]; exact e1
    · rw [q.2.2 240 (by omega)]; exact e2
  · rw [q.2.2 214 (by omega)]; exact mk
section
variable {h : pb_HP} {K : ma_K} {N c : Nat}
theorem wv_is (H : ma_H h) (hc : ma_ct c) : pb_is h c 0 := ma_is H.1 (by have := hc.1; omega) hc.2.2.1
theorem wv_x1 (H : ma_H h) (hc : ma_ct c) {j : Nat} (hj : j < 6) : pb_ar h (c + 1) 12 (nI j) := ma_ar H.1 (by have := hc.1; omega) hc.2.2.2.1 hj (by decide)
theorem wv_x2 (H : ma_H h) (hc : ma_ct c) {j : Nat} (hj : j < 6) : pb_ar h (c + 2) 12 (nI j) := ma_ar H.1 (by have := hc.1; omega) hc.2.2.2.2.1 hj (by decide)
theorem wv_x3 (H : ma_H h) (hc : ma_ct c) {j : Nat} (hj : j < 6) : pb_ar h (c + 3) 12 (nI j) := ma_ar H.1 (by have := hc.1; omega) hc.2.2.2.2.2.1 hj (by decide)
theorem wv_x4 (H : ma_H h) (hc : ma_ct c) {j : Nat} (hj : j < 6) : pb_ar h (c + 4) 12 (nI j) := ma_ar H.1 (by have := hc.1; omega) hc.2.2.2.2.2.2.1 hj (by decide)
theorem wv_x5 (H : ma_H h) (hc : ma_ct c) {j : Nat} (hj : j < 6) : pb_ar h (c + 5) 12 (nI j) := ma_ar H.1 (by have := hc.1; omega) hc.2.2.2.2.2.2.2.1 hj (by decide)
theorem wv_x6 (H : ma_H h) (hc : ma_ct c) {j : Nat} (hj : j < 36) : pb_ar h (c + 6) 12 (nI j) := ma_ar H.1 (by have := hc.1; omega) hc.2.2.2.2.2.2.2.2.1 hj (by decide)
/-- the model's county at hand is this one, as told -/
def ma_of (h : pb_HP) (K : ma_K) : Prop := ∃ k, k < 2 ∧ pb_I h 217 23 = nI k ∧ ma_T h k K
theorem m_197 (H : ma_H h) {k a : Nat} (hk : k < 2) (e : pb_I h 217 23 = nI k) (ha : a < 68) : f_197 h 217 (nI a) = some (pb_I h 223 (68 * k + a)) := by
  have e2 : (68 : Int32) * nI k + nI a = nI (68 * k + a) := by rw [← nI_add, ← pk_mul]; rfl
  simp (disch := first | exact mi_217 H | exact mx_223 H (by omega) | omega) only [f_197, e, mr_217_6 H, e2, nI_1, nI_add, pk_mul, pk_sub, nI_leI, nI_ltI, nI_eq, nI_clamp, Option.bind_some, ma_b0, ma_p0, if_true, if_false, mE, mF, mI_lt, mI_le, mI_eq, mI_s, nm_le, nm_lt, mn_le, mn_lt, nm_eq, mn_eq, if_pos, if_neg, ma_Ik, ma_R_pI, ma_R_pW, ma_I_pW, ma_1_pI, ma_1_pW, ma_bit, ma_has, ma_shl, fa_or, fa_and]
theorem m_199 (H : ma_H h) (O : ma_of h K) (hN : 3000 < N) : ∃ g, f_199 N h 217 = some g ∧ ma_fr [228, 229, 230, 231, 232] [] h g ∧ (∀ m, m < 6 → pb_I g 228 m = nI (K 2 m)) ∧ (∀ m, m < 6 → pb_I g 229 m = nI (K 3 m)) ∧ (∀ m, m < 6 → pb_I g 230 m = nI (K 4 m)) ∧ (∀ m, m < 6 → pb_I g 231 m = nI (K 5 m)) ∧ ∀ m, m < 36 → pb_I g 232 m = nI (K 6 m) := by
  obtain ⟨k, hk, ek, T⟩ := O
  have h1 : ∃ e, pb_wl (f_199_2s N 217) N (0, h) = some e ∧ (ma_fr [228, 229, 230, 231, 232] [] h e ∧ (∀ m, m < 6 → pb_I e 228 m = nI (K 2 m)) ∧ (∀ m, m < 6 → pb_I e 229 m = nI (K 3 m)) ∧ (∀ m, m < 6 → pb_I e 230 m = nI (K 4 m)) ∧ (∀ m, m < 6 → pb_I e 231 m = nI (K 5 m))) := by
    refine ma_lh (fun j s => s.1 = nI j ∧ ma_fr [228, 229, 230, 231, 232] [] h s.2 ∧ (∀ m, m < j → pb_I s.2 228 m = nI (K 2 m)) ∧ (∀ m, m < j → pb_I s.2 229 m = nI (K 3 m)) ∧ (∀ m, m < j → pb_I s.2 230 m = nI (K 4 m)) ∧ (∀ m, m < j → pb_I s.2 231 m = nI (K 5 m))) _ 6 0 N (0, h) (by omega) (by omega) ⟨rfl, ma_fr_r _ _ _, fun c hc => absurd hc (Nat.not_lt_zero c), fun c hc => absurd hc (Nat.not_lt_zero c), fun c hc => absurd hc (Nat.not_lt_zero c), fun c hc => absurd hc (Nat.not_lt_zero c)⟩ ?_ ?_
    · rintro j ⟨i, g⟩ _ hj ⟨hi, hf, h1, h2, h3, h4⟩
      dsimp only at hi hf h1 h2 h3 h4
      subst hi
      left
      have H2 := ma_H_fr H hf
      have e0 : pb_I g 217 23 = nI k := by rw [ma_fr_o hf (by decide) (by decide)]; exact ek
      have t1 : pb_I g 223 = pb_I h 223 := ma_fr_o hf (by decide) (by decide)
      have a1 := T.2.2.2.1 j hj
      have a2 := T.2.2.2.2.1 j hj
      have a3 := T.2.2.2.2.2.1 j hj
      have a4 := T.2.2.2.2.2.2.1 j hj
      have f1 : ma_fr [228, 229, 230, 231, 232] [] h (pb_pI (pb_pI (pb_pI (pb_pI g 228 j (nI (K 2 j))) 229 j (nI (K 3 j))) 230 j (nI (K 4 j))) 231 j (nI (K 5 j))) := ma_fr_pI (ma_fr_pI (ma_fr_pI (ma_fr_pI hf (.inl (by decide)) _) (.inl (by decide)) _) (.inl (by decide)) _) (.inl (by decide)) _
      refine ⟨(nI (j + 1), pb_pI (pb_pI (pb_pI (pb_pI g 228 j (nI (K 2 j))) 229 j (nI (K 3 j))) 230 j (nI (K 4 j))) 231 j (nI (K 5 j))), ?_, rfl, f1, ?_, ?_, ?_, ?_⟩
      · have z1 := m_197 H2 hk e0 (a := 8 + j) (by omega)
        have z2 := m_197 (h := pb_pI g 228 j (nI (K 2 j))) H2 hk (by rw [ma_I_pI, if_neg (by decide)]; exact e0) (a := 14 + j) (by omega)
        have z3 := m_197 (h := pb_pI (pb_pI g 228 j (nI (K 2 j))) 229 j (nI (K 3 j))) H2 hk (by rw [ma_I_pI, if_neg (by decide), ma_I_pI, if_neg (by decide)]; exact e0) (a := 20 + j) (by omega)
        have z4 := m_197 (h := pb_pI (pb_pI (pb_pI g 228 j (nI (K 2 j))) 229 j (nI (K 3 j))) 230 j (nI (K 4 j))) H2 hk (by rw [ma_I_pI, if_neg (by decide), ma_I_pI, if_neg (by decide), ma_I_pI, if_neg (by decide)]; exact e0) (a := 26 + j) (by omega)
        simp only [ma_I_pI, t1, a1, a2, a3, a4, show ¬ (223 = 228) by decide, show ¬ (223 = 229) by decide, show ¬ (223 = 230) by decide, if_false] at z1 z2 z3 z4
        simp (disch := first | exact mi_217 H2 | exact mx_228 H2 (by omega) | exact mx_229 H2 (by omega) | exact mx_230 H2 (by omega) | exact mx_231 H2 (by omega) | omega) only [f_199_2s, nI_1, nI_add, pk_mul, pk_sub, nI_leI, nI_ltI, nI_eq, nI_clamp, Option.bind_some, ma_b0, ma_p0, if_true, if_false, mE, mF, mI_lt, mI_le, mI_eq, mI_s, nm_le, nm_lt, mn_le, mn_lt, nm_eq, mn_eq, if_pos, if_neg, ma_Ik, ma_R_pI, ma_R_pW, ma_I_pW, ma_1_pI, ma_1_pW, ma_bit, ma_has, ma_shl, fa_or, fa_and, lA0, lB0, lC0, lD0, lE0, lF0, lG0, lH0, lA1, lB1, lC1, lD1, lE1, lF1, lG1, lH1, lK1, lA2, lB2, lC2, lD2, lE2, lF2, lG2, lH2, lK2, lI2, lJ2, lL2, lA5, lB5, lC5, lD5, lE5, lF5, lG5, lH5, lK5, lI5, lJ5, lL5, lA6, lB6, lC6, lD6, lE6, lF6, lG6, lH6, lK6, lI6, lJ6, lL6, lA7, lB7, lC7, lD7, lE7, lF7, lG7, lH7, lK7, lI7, lJ7, lL7, lA10, lB10, lC10, lD10, lE10, lF10, lG10, lH10, lK10, lI10, lJ10, lL10, lA8, lB8, lC8, lD8, lE8, lF8, lG8, lH8, lK8, lI8, lJ8, lL8, lA14, lB14, lC14, lD14, lE14, lF14, lG14, lH14, lK14, lI14, lJ14, lL14, lA20, lB20, lC20, lD20, lE20, lF20, lG20, lH20, lK20, lI20, lJ20, lL20, lA26, lB26, lC26, lD26, lE26, lF26, lG26, lH26, lK26, lI26, lJ26, lL26, mr_217_30 H2, mr_217_31 H2, mr_217_32 H2, mr_217_33 H2, z1, z2, z3, z4]
      · intro m hm
        simp (disch := omega) only [ma_Ik, if_pos, if_neg]
        by_cases q : m = j
        · subst q; simp
        · simp only [q, if_false]; exact h1 m (by omega)
      · intro m hm
        simp (disch := omega) only [ma_Ik, if_pos, if_neg]
        by_cases q : m = j
        · subst q; simp
        · simp only [q, if_false]; exact h2 m (by omega)
      · intro m hm
        simp (disch := omega) only [ma_Ik, if_pos, if_neg]
        by_cases q : m = j
        · subst q; simp
        · simp only [q, if_false]; exact h3 m (by omega)
      · intro m hm
        simp (disch := omega) only [ma_Ik, if_pos, if_neg]
        by_cases q : m = j
        · subst q; simp
        · simp only [q, if_false]; exact h4 m (by omega)
    · rintro ⟨i, g⟩ ⟨hi, hf⟩
      dsimp only at hi hf
      subst hi
      exact ⟨g, rfl, hf⟩
  obtain ⟨g, e1, f1, b1, b2, b3, b4⟩ := h1
  have h2 : ∃ e, pb_wl (f_199_72s N 217) N (0, g) = some e ∧ (ma_fr [232] [] g e ∧ (∀ m, m < 36 → pb_I e 232 m = nI (K 6 m))) := by
    have Hg := ma_H_fr H f1
    refine ma_lh (fun j s => s.1 = nI j ∧ ma_fr [232] [] g s.2 ∧ (∀ m, m < j → pb_I s.2 232 m = nI (K 6 m))) _ 36 0 N (0, g) (by omega) (by omega) ⟨rfl, ma_fr_r _ _ _, fun c hc => absurd hc (Nat.not_lt_zero c)⟩ ?_ ?_
    · rintro j ⟨i, g2⟩ _ hj ⟨hi, hf, h1⟩
      dsimp only at hi hf h1
      subst hi
      left
      have H2 := ma_H_fr Hg hf
      have e0 : pb_I g2 217 23 = nI k := by rw [ma_fr_o hf (by decide) (by decide), ma_fr_o f1 (by decide) (by decide)]; exact ek
      have t1 : pb_I g2 223 = pb_I h 223 := by rw [ma_fr_o hf (by decide) (by decide), ma_fr_o f1 (by decide) (by decide)]
      have a1 := T.2.2.2.2.2.2.2 j hj
      have z1 := m_197 H2 hk e0 (a := 32 + j) (by omega)
      rw [t1, a1] at z1
      refine ⟨(nI (j + 1), pb_pI g2 232 j (nI (K 6 j))), ?_, rfl, ma_fr_pI hf (.inl (by decide)) _, ?_⟩
      · simp (disch := first | exact mi_217 H2 | exact mx_232 H2 (by omega) | omega) only [f_199_72s, nI_1, nI_add, pk_mul, pk_sub, nI_leI, nI_ltI, nI_eq, nI_clamp, Option.bind_some, ma_b0, ma_p0, if_true, if_false, mE, mF, mI_lt, mI_le, mI_eq, mI_s, nm_le, nm_lt, mn_le, mn_lt, nm_eq, mn_eq, if_pos, if_neg, ma_Ik, ma_R_pI, ma_R_pW, ma_I_pW, ma_1_pI, ma_1_pW, ma_bit, ma_has, ma_shl, fa_or, fa_and, lA36, lB36, lC36, lD36, lE36, lF36, lG36, lH36, lK36, lI36, lJ36, lL36, lA32, lB32, lC32, lD32, lE32, lF32, lG32, lH32, lK32, lI32, lJ32, lL32, mr_217_34 H2, z1]
      · intro m hm
        simp (disch := omega) only [ma_Ik, if_pos, if_neg]
        by_cases q : m = j
        · subst q; simp
        · simp only [q, if_false]; exact h1 m (by omega)
    · rintro ⟨i, g⟩ ⟨hi, hf⟩
      dsimp only at hi hf
      subst hi
      exact ⟨g, rfl, hf⟩
  obtain ⟨g2, e2, f2, b5⟩ := h2
  refine ⟨g2, ?_, ma_fr_t f1 (ma_fr_w f2 (by decide) (by decide)), ?_, ?_, ?_, ?_, b5⟩
  · unfold f_199
    simp only [e1, e2, Option.bind_some]
  · rw [ma_fr_o f2 (by decide) (by decide)]; exact b1
  · rw [ma_fr_o f2 (by decide) (by decide)]; exact b2
  · rw [ma_fr_o f2 (by decide) (by decide)]; exact b3
  · rw [ma_fr_o f2 (by decide) (by decide)]; exact b4
/-- the model begins with a county -/
def ma_B (h : pb_HP) (K : ma_K) : Prop := ma_H h ∧ ma_M h K ∧ ma_of h K ∧ pb_I h 217 26 = 0 ∧ pb_I h 217 27 = 6 ∧ pb_I h 217 28 = 0 ∧ pb_I h 217 29 = 0
theorem m_198 (H : ma_H h) {k n : Nat} (hk : k < 2) (hn : n < 2 ^ 31) (e : pb_I h 222 0 = nI n) (hkn : k < n) (T : ma_T h k K) (hN : 3000 < N) : ∃ g, f_198 N h 217 (nI k) = some (1, g) ∧ ma_fr [217, 228, 229, 230, 231, 232] [] h g ∧ ma_B g K ∧ pb_I g 217 36 = pb_I h 217 36 := by
  have z0 := m_175 H (s := 0) (by omega) hn e (nI k)
  rw [ma_at_nI (by omega) hn] at z0
  simp only [hkn, decide_true, if_true] at z0
  have t0 := T.1
  have t1 := T.2.1
  have z1 := m_197 (h := pb_pI h 217 23 (nI k)) H hk rfl (a := 0) (by omega)
  have z2 := m_197 (h := pb_pI (pb_pI h 217 23 (nI k)) 217 24 (nI (K 0 0))) H hk rfl (a := 1) (by omega)
  simp only [ma_I_pI, show ¬ (223 = 217) by decide, if_false, t0, t1] at z1 z2
  obtain ⟨g, e1, f1, b1, b2, b3, b4, b5⟩ := m_199 (N := N) (h := pb_pI (pb_pI (pb_pI (pb_pI (pb_pI (pb_pI (pb_pI h 217 23 (nI k)) 217 24 (nI (K 0 0))) 217 25 (nI (K 0 1))) 217 26 0) 217 27 6) 217 28 0) 217 29 0) (K := K) H ⟨k, hk, rfl, T⟩ hN
  have f2 : ma_fr [217, 228, 229, 230, 231, 232] [] h g := by
    refine ma_fr_t ?_ (ma_fr_w f1 (by decide) (by decide))
    exact ma_fr_pI (ma_fr_pI (ma_fr_pI (ma_fr_pI (ma_fr_pI (ma_fr_pI (ma_fr_pI (ma_fr_r _ _ _) (.inl (by decide)) _) (.inl (by decide)) _) (.inl (by decide)) _) (.inl (by decide)) _) (.inl (by decide)) _) (.inl (by decide)) _) (.inl (by decide)) _
  have e17 : pb_I g 217 = pb_I (pb_pI (pb_pI (pb_pI (pb_pI (pb_pI (pb_pI (pb_pI h 217 23 (nI k)) 217 24 (nI (K 0 0))) 217 25 (nI (K 0 1))) 217 26 0) 217 27 6) 217 28 0) 217 29 0) 217 := ma_fr_o f1 (by decide) (by decide)
  refine ⟨g, ?_, f2, ⟨ma_H_fr H f2, ⟨?_, ?_, b1, b2, b3, b4, b5⟩, ⟨k, hk, ?_, ma_T_e T (ma_fr_o f2 (by decide) (by decide))⟩, ?_, ?_, ?_, ?_⟩, ?_⟩
  · unfold f_198
    rw [if_pos (mi_217 H)]
    rw [show (0 : Int32) = nI 0 from rfl, z0]
    simp only [Option.bind_some]
    rw [if_pos (by decide), z1]
    simp only [Option.bind_some]
    rw [show (1 : Int32) = nI 1 from rfl, z2]
    simp only [Option.bind_some]
    rw [show nI 0 = (0 : Int32) from rfl, e1]
    rfl
  · rw [e17]; rfl
  · rw [e17]; rfl
  · rw [e17]; rfl
  · rw [e17]; rfl
  · rw [e17]; rfl
  · rw [e17]; rfl
  · rw [e17]; rfl
  · rw [e17]; rfl
end
section
variable {h : pb_HP} {N : Nat}
theorem c_103 (H : ma_H h) {X : ma_X} (G : ma_GX X) (C : ma_CX h 1 X) {s : Nat} (hs : s < 3) (x : Int32) : f_103 h 1 (nI s) x = some (if ma_at x (X.2.2.2.1 s) then 1 else 0) := by
  have e := C.2.2.2.1 s hs
  rw [← ma_at_if]
  simp (disch := first | exact mi_1 H | exact mx_39 H (by omega) | omega) only [f_103, nI_1, nI_add, pk_mul, pk_sub, nI_leI, nI_ltI, nI_eq, nI_clamp, Option.bind_some, ma_b0, ma_p0, if_true, if_false, mE, mF, mI_lt, mI_le, mI_eq, mI_s, nm_le, nm_lt, mn_le, mn_lt, nm_eq, mn_eq, if_pos, if_neg, ma_Ik, ma_R_pI, ma_R_pW, ma_I_pW, ma_1_pI, ma_1_pW, ma_bit, ma_has, ma_shl, fa_or, fa_and, mr_1_3 H, e]
theorem ma_ct3 : ma_ct 3 := by unfold ma_ct; decide
theorem ma_ct10 : ma_ct 10 := by unfold ma_ct; decide
/-- a county by its number, on both sides -/
theorem ma_W1 (I : ma_INV h) (hN : 3000 < N) (x : Int32) : (f_105 h 1 x = some none ∧ ∀ g, ma_q h g → f_198 N g 217 x = some (0, g)) ∨ ∃ c K, f_105 h 1 x = some (some c) ∧ (c = 3 ∨ c = 10) ∧ ma_OK K ∧ ma_OT K ∧ ma_V h c K ∧ ∀ g, ma_q h g → ∃ g2, f_198 N g 217 x = some (1, g2) ∧ ma_q g g2 ∧ ma_B g2 K ∧ pb_I g2 217 36 = pb_I g 217 36 := by
  obtain ⟨H, ⟨X, G, C, M⟩, _⟩ := I
  have hn := G.2.2.2.1 0 (by decide)
  have z : f_103 h 1 0 x = _ := c_103 H G C (s := 0) (by decide) x
  cases q : ma_at x (X.2.2.2.1 0) with
  | false =>
    left
    rw [q] at z
    refine ⟨?_, fun g qg => ?_⟩
    · unfold f_105
      rw [if_pos (mi_1 H), z]
      rfl
    · have H2 := ma_H_q H qg
      have e := M.2.2.2.1 0 (by decide)
      have z2 := m_175 H2 (s := 0) (by omega) (show X.2.2.2.1 0 < 2 ^ 31 by omega) ((congrFun (qg.2.2 222 (by decide)) 0).trans e) x
      rw [q] at z2
      unfold f_198
      rw [if_pos (mi_217 H2), show (0 : Int32) = nI 0 from rfl, z2]
      rfl
  | true =>
    right
    obtain ⟨k, hk, rfl⟩ := ma_at_ex (by omega) q
    have hk2 : k < 2 := by omega
    rw [q] at z
    have zc : f_105 h 1 (nI k) = some (some (3 + 7 * k)) := by
      have e0 : k = 0 ∨ k = 1 := by omega
      unfold f_105
      rw [if_pos (mi_1 H), z]
      simp only [Option.bind_some, mr_1_0 H]
      rw [if_neg (by decide), if_pos (mx_2 H hk2), nI_clamp (by omega)]
      rcases e0 with e0 | e0
      · subst e0; rw [mr_2_0 H]; rfl
      · subst e0; rw [mr_2_1 H]; rfl
    refine ⟨3 + 7 * k, X.1 k, zc, by omega, (G.1 k hk2).1, (G.1 k hk2).2, C.1 k hk2, fun g qg => ?_⟩
    have H2 := ma_H_q H qg
    have e := M.2.2.2.1 0 (by decide)
    have T := M.1 k hk2
    rw [show 2 * 0 + k = k by omega] at T
    obtain ⟨g2, a1, a2, a3⟩ := m_198 H2 hk2 (show X.2.2.2.1 0 < 2 ^ 31 by omega) ((congrFun (qg.2.2 222 (by decide)) 0).trans e) hk (ma_T_e T (qg.2.2 223 (by decide))) hN
    exact ⟨g2, a1, ma_q_fr a2 (by decide), a3⟩
theorem ma_W (I : ma_INV h) (hN : 3000 < N) (x : Int32) : (f_105 h 1 x = some none ∧ ∀ g, ma_q h g → f_198 N g 217 x = some (0, g)) ∨ ∃ c K, f_105 h 1 x = some (some c) ∧ (c = 3 ∨ c = 10) ∧ ma_OK K ∧ ma_OT K ∧ ma_V h c K ∧ ∀ g, ma_q h g → ∃ g2, f_198 N g 217 x = some (1, g2) ∧ ma_q g g2 ∧ ma_B g2 K := by
  rcases ma_W1 I hN x with q | ⟨c, K, a1, a2, a3, a4, a5, a6⟩
  · exact .inl q
  · refine .inr ⟨c, K, a1, a2, a3, a4, a5, fun g qg => ?_⟩
    obtain ⟨g2, b1, b2, b3, _⟩ := a6 g qg
    exact ⟨g2, b1, b2, b3⟩
end
