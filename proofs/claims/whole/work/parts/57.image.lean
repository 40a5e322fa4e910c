/-! image, again: the model's copy -/
def ma_cp (h g : pb_HP) (o w a b : Nat) : Prop := (∀ j, j < w → pb_I g o (w * b + j) = pb_I h o (w * a + j)) ∧ ∀ k, k < w * b ∨ w * b + w ≤ k → pb_I g o k = pb_I h o k
section
variable {h : pb_HP} {N : Nat}
theorem m_173 (H : ma_H h) {o cap w a b : Nat} (x : ∀ g, ma_H g → ∀ j, j < cap → pb_ar g o 12 (nI j)) (hw : w ≤ 322) (hc : cap < 2 ^ 31) (ha : w * a + w ≤ cap) (hb : w * b + w ≤ cap) (hab : w * a + w ≤ w * b ∨ w * b + w ≤ w * a) (hN : 3000 < N) : ∃ g, f_173 N h o (nI w) (nI a) (nI b) = some g ∧ ma_fr [o] [] h g ∧ ma_cp h g o w a b := by
  have hl : ∃ e, pb_wl (f_173_3s N o (nI w) (nI a) (nI b)) N (0, h) = some e ∧ (ma_fr [o] [] h e ∧ ma_cp h e o w a b) := by
    refine ma_lh (fun j s => s.1 = nI j ∧ ma_fr [o] [] h s.2 ∧ (∀ i, i < j → pb_I s.2 o (w * b + i) = pb_I h o (w * a + i)) ∧ ∀ k, k < w * b ∨ w * b + j ≤ k → pb_I s.2 o k = pb_I h o k) _ w 0 N _ (by omega) (by omega) ⟨rfl, ma_fr_r _ _ _, fun i hi => absurd hi (Nat.not_lt_zero i), fun _ _ => rfl⟩ ?_ ?_
    · rintro j ⟨y, g⟩ _ hj ⟨hy, hf, h1, h2⟩
      dsimp only at hy hf h1 h2
      subst hy
      left
      have H2 := ma_H_fr H hf
      have rd : pb_I g o (w * a + j) = pb_I h o (w * a + j) := h2 _ (by omega)
      refine ⟨(nI (j + 1), pb_pI g o (w * b + j) (pb_I h o (w * a + j))), ?_, rfl, ma_fr_pI hf (.inl (by simp)) _, fun i hi => ?_, fun k hk => ?_⟩
      · simp only [f_173_3s, if_neg (nI_ge hj (show w < 2 ^ 31 by omega)), pk_mul, nI_add, if_pos (x g H2 _ (show w * a + j < cap by omega)), if_pos (x g H2 _ (show w * b + j < cap by omega)), nI_clamp (show w * a + j < 2 ^ 31 by omega), nI_clamp (show w * b + j < 2 ^ 31 by omega), rd, nI_1]
      · show pb_I (pb_pI g o _ _) o (w * b + i) = _
        rw [ma_Ik, if_pos rfl]
        by_cases e : i = j
        · rw [if_pos (by omega), e]
        · rw [if_neg (by omega)]; exact h1 i (by omega)
      · show pb_I (pb_pI g o _ _) o k = _
        rw [ma_Ik, if_pos rfl, if_neg (by omega)]; exact h2 k (by omega)
    · rintro ⟨y, g⟩ ⟨hy, hf, h1, h2⟩
      dsimp only at hy hf h1 h2
      subst hy
      refine ⟨g, ?_, hf, h1, h2⟩
      simp only [f_173_3s, if_pos (nI_le (Nat.le_refl w) (show w < 2 ^ 31 by omega))]
  obtain ⟨g, a1, a2⟩ := hl
  exact ⟨g, by simp only [f_173, a1, Option.bind_some], a2⟩
theorem m_174t (H : ma_H h) {a b : Nat} (ha : a < 4) (hb : b < 4) (hab : a ≠ b) (hB : ∀ j, j < 600 → (pb_I h 218 (600 * a + j)).toInt8.toInt32 = pb_I h 218 (600 * a + j)) (hN : 3000 < N) : ∃ g, pb_wl (f_174_2s N 217 (nI a) (nI b)) N (0, h) = some g ∧ ma_fr [218] [] h g ∧ ma_cp h g 218 600 a b := by
  refine ma_lh (fun j s => s.1 = nI j ∧ ma_fr [218] [] h s.2 ∧ (∀ i, i < j → pb_I s.2 218 (600 * b + i) = pb_I h 218 (600 * a + i)) ∧ ∀ k, k < 600 * b ∨ 600 * b + j ≤ k → pb_I s.2 218 k = pb_I h 218 k) _ 600 0 N _ (by omega) (by omega) ⟨rfl, ma_fr_r _ _ _, fun i hi => absurd hi (Nat.not_lt_zero i), fun _ _ => rfl⟩ ?_ ?_
  · rintro j ⟨y, g⟩ _ hj ⟨hy, hf, h1, h2⟩
    dsimp only at hy hf h1 h2
    subst hy
    left
    have H2 := ma_H_fr H hf
    have rd : pb_I g 218 (600 * a + j) = pb_I h 218 (600 * a + j) := h2 _ (by omega)
    have ej : ¬ (600 : Int32) ≤ nI j := (not_congr (lA600 (show j < 2 ^ 31 by omega))).mpr (by omega)
    refine ⟨(nI (j + 1), pb_pI g 218 (600 * b + j) (pb_I h 218 (600 * a + j))), ?_, rfl, ma_fr_pI hf (.inl (by simp)) _, fun i hi => ?_, fun k hk => ?_⟩
    · simp only [f_174_2s, if_neg ej, if_pos (mi_217 H2), mr_217_1 H2, Option.bind_some, lI600, nI_add, if_pos (mx_218 H2 (show 600 * a + j < 2400 by omega)), if_pos (mx_218 H2 (show 600 * b + j < 2400 by omega)), nI_clamp (show 600 * a + j < 2 ^ 31 by omega), nI_clamp (show 600 * b + j < 2 ^ 31 by omega), rd, hB j hj, nI_1]
    · show pb_I (pb_pI g 218 _ _) 218 (600 * b + i) = _
      rw [ma_Ik, if_pos rfl]
      by_cases e : i = j
      · rw [if_pos (by omega), e]
      · rw [if_neg (by omega)]; exact h1 i (by omega)
    · show pb_I (pb_pI g 218 _ _) 218 k = _
      rw [ma_Ik, if_pos rfl, if_neg (by omega)]; exact h2 k (by omega)
  · rintro ⟨y, g⟩ ⟨hy, hf, h1, h2⟩
    dsimp only at hy hf h1 h2
    subst hy
    exact ⟨g, rfl, hf, h1, h2⟩
end
