/-! Duels: duel, best. -/
theorem c_306 {h : pb_HP} {N o n : Nat} (hn : h.1 = 241) (ho : o < 241) (hs : pb_SH o = (12, n)) (h3 : n < 3000) (v : Int32) (hN : 3000 < N) : ∃ g, f_306 N h o v = some g ∧ ma_fr [o] [] h g ∧ ∀ m, m < n → pb_I g o m = v := by
  have e0 : Int32.ofNat (pb_SH o).2 = nI n := by rw [hs]; rfl
  have hl : ∃ e, pb_wl (f_306_5s N o v (nI n)) N (0, h) = some e ∧ (ma_fr [o] [] h e ∧ ∀ m, m < n → pb_I e o m = v) := by
    refine ma_lh (fun j s => s.1 = nI j ∧ ma_fr [o] [] h s.2 ∧ ∀ m, m < j → pb_I s.2 o m = v) _ n 0 N _ (by omega) (by omega) ⟨rfl, ma_fr_r _ _ _, fun m hm => absurd hm (Nat.not_lt_zero m)⟩ ?_ ?_
    · rintro j ⟨i, g⟩ _ hj ⟨hi, hf, hv⟩
      dsimp only at hi hf hv
      subst hi
      left
      refine ⟨(nI (j + 1), pb_pI g o j v), ?_, rfl, ma_fr_pI hf (.inl (by simp)) _, fun m hm => ?_⟩
      · simp only [f_306_5s, if_neg (nI_ge hj (show n < 2 ^ 31 by omega)), if_pos (ma_ar (hf.1.trans hn) ho hs hj (by omega)), nI_clamp (show j < 2 ^ 31 by omega), nI_1]
      · show pb_I (pb_pI g o j v) o m = v
        rw [ma_Ik, if_pos rfl]
        by_cases e : m = j
        · rw [if_pos e]
        · rw [if_neg e]; exact hv m (by omega)
    · rintro ⟨i, g⟩ ⟨hi, hf, hv⟩
      dsimp only at hi hf hv
      subst hi
      refine ⟨g, ?_, hf, hv⟩
      simp only [f_306_5s, if_pos (nI_le (Nat.le_refl n) (show n < 2 ^ 31 by omega))]
  obtain ⟨g, a1, a2⟩ := hl
  refine ⟨g, ?_, a2⟩
  simp only [f_306, if_pos (ma_is hn ho hs), e0, a1, Option.bind_some]
def sp_duj (K : ma_K) (j a b : Nat) : Nat := ma_fo (fun c n => if sp_vt K c ∧ sp_rg K c b < sp_rg K c a then n + 1 else n) j 0
def sp_du (K : ma_K) (a b : Nat) : Nat := sp_duj K (K 0 1) a b
theorem sp_duj_le (K : ma_K) (j a b : Nat) : sp_duj K j a b ≤ j := ma_fo_inv (g := fun c n => if sp_vt K c ∧ sp_rg K c b < sp_rg K c a then n + 1 else n) (P := fun j a => a ≤ j) (a0 := 0) (Nat.le_refl _) j (fun j a hj ha => by split <;> omega)
theorem sp_du_le {K : ma_K} (O : ma_OK K) (a b : Nat) : sp_du K a b ≤ 6 := Nat.le_trans (sp_duj_le K _ a b) O.2.1
theorem sp_du_self (K : ma_K) (a : Nat) : sp_du K a a = 0 := ma_fo_inv (g := fun c n => if sp_vt K c ∧ sp_rg K c a < sp_rg K c a then n + 1 else n) (P := fun j a => a = 0) (a0 := 0) rfl (K 0 1) (fun j a hj ha => by rw [if_neg (by omega)]; exact ha)
/-- the wins table -/
def ma_wn (h : pb_HP) (men : Nat) (W : Nat → Nat → Nat) : Prop := pb_I h 194 1 = nI men ∧ ∀ m o, m < men → o < men → pb_I h 196 (6 * m + o) = nI (W m o)
def sp_wv (K : ma_K) (i : Nat) (W : Nat → Nat → Nat) (j k m o : Nat) : Nat := if m < j ∨ (m = j ∧ o < k) then W m o + (if sp_rg K i o < sp_rg K i m then 1 else 0) else W m o
section
variable {h : pb_HP} {K : ma_K} {N c : Nat}
theorem c_51 (H : ma_H h) (V : ma_V h c K) (O : ma_OK K) (hc : c = 3 ∨ c = 10) {W : Nat → Nat → Nat} (hW : ma_wn h (K 0 0) W) {i : Nat} (hi : i < 6) (hN : 3000 < N) : ∃ g, f_51 N h 194 c (nI i) = some g ∧ ma_fr [196, 197] [] h g ∧ ma_wn g (K 0 0) (sp_wv K i W (K 0 0) 0) := by
  have hme := O.1
  have hrg := sp_rg_le O i
  have hV : ∀ g, ma_fr [196, 197] [] h g → ma_V g c K := fun g f => ma_V_e V (fun o a b => ma_fr_o f (by simp; omega) (by simp))
  have h4 : ∀ g, ma_fr [196, 197] [] h g → pb_I g 194 1 = nI (K 0 0) := fun g f => by rw [ma_fr_o f (by decide) (by decide)]; exact hW.1
  have l1 : ∃ e, pb_wl (f_51_2s N 194 c (nI i)) N (0, h) = some e ∧ (ma_fr [197] [] h e ∧ ∀ m, m < K 0 0 → pb_I e 197 m = mI (sp_rg K i m)) := by
    refine ma_lh (fun j s => s.1 = nI j ∧ ma_fr [197] [] h s.2 ∧ ∀ m, m < j → pb_I s.2 197 m = mI (sp_rg K i m)) _ (K 0 0) 0 N _ (by omega) (by omega) ⟨rfl, ma_fr_r _ _ _, fun m hm => absurd hm (Nat.not_lt_zero m)⟩ ?_ ?_
    · rintro j ⟨x, g⟩ _ hj ⟨hx, hf, hv⟩
      dsimp only at hx hf hv
      subst hx
      left
      have f2 : ma_fr [196, 197] [] h g := ma_fr_w hf (by decide) (by decide)
      have H2 := ma_H_fr H hf
      have V2 := hV g f2
      refine ⟨(nI (j + 1), pb_pI g 197 j (mI (sp_rg K i j))), ?_, rfl, ma_fr_pI hf (.inl (by decide)) _, fun m hm => ?_⟩
      · simp only [f_51_2s, if_pos (mi_194 H2), h4 g f2, if_neg (nI_ge hj (show K 0 0 < 2 ^ 31 by omega)), mr_194_3 H2, Option.bind_some, if_pos (wv_is H2 V2.1), c_9 H2 V2 O hi (show j < 6 by omega) hN, if_pos (mx_197 H2 (show j < 6 by omega)), nI_clamp (show j < 2 ^ 31 by omega), nI_1]
      · show pb_I (pb_pI g 197 j _) 197 m = _
        rw [ma_Ik, if_pos rfl]
        by_cases e : m = j
        · rw [if_pos e, e]
        · rw [if_neg e]; exact hv m (by omega)
    · rintro ⟨x, g⟩ ⟨hx, hf, hv⟩
      dsimp only at hx hf hv
      subst hx
      have f2 : ma_fr [196, 197] [] h g := ma_fr_w hf (by decide) (by decide)
      have H2 := ma_H_fr H hf
      refine ⟨g, ?_, hf, hv⟩
      simp only [f_51_2s, if_pos (mi_194 H2), h4 g f2, if_pos (nI_le (Nat.le_refl _) (show K 0 0 < 2 ^ 31 by omega))]
  obtain ⟨g1, a1, a2, a3⟩ := l1
  have H1 := ma_H_fr H a2
  have w1 : ma_wn g1 (K 0 0) (sp_wv K i W 0 0) := by
    refine ⟨h4 g1 (ma_fr_w a2 (by decide) (by decide)), fun m o hm ho => ?_⟩
    rw [ma_fr_o a2 (by decide) (by decide), hW.2 m o hm ho]
    unfold sp_wv
    rw [if_neg (by omega)]
  have l2 : ∃ e, pb_wl (f_51_30s N 194) N (0, g1) = some e ∧ (ma_fr [196] [] g1 e ∧ ma_wn e (K 0 0) (sp_wv K i W (K 0 0) 0)) := by
    refine ma_lh (fun j s => s.1 = nI j ∧ ma_fr [196] [] g1 s.2 ∧ ma_wn s.2 (K 0 0) (sp_wv K i W j 0)) _ (K 0 0) 0 N _ (by omega) (by omega) ⟨rfl, ma_fr_r _ _ _, w1⟩ ?_ ?_
    · rintro j ⟨x, g⟩ _ hj ⟨hx, hf, hv⟩
      dsimp only at hx hf hv
      subst hx
      left
      have H2 := ma_H_fr H1 hf
      have l3 : ∃ e, pb_wl (f_51_41s N 194 (nI j)) N (0, g) = some e ∧ (ma_fr [196] [] g1 e ∧ ma_wn e (K 0 0) (sp_wv K i W j (K 0 0))) := by
        refine ma_lh (fun k s => s.1 = nI k ∧ ma_fr [196] [] g1 s.2 ∧ ma_wn s.2 (K 0 0) (sp_wv K i W j k)) _ (K 0 0) 0 N _ (by omega) (by omega) ⟨rfl, hf, hv⟩ ?_ ?_
        · rintro k ⟨y, g2⟩ _ hk ⟨hy, hf2, hv2⟩
          dsimp only at hy hf2 hv2
          subst hy
          left
          have H3 := ma_H_fr H1 hf2
          have e97 : ∀ m, m < K 0 0 → pb_I g2 197 m = mI (sp_rg K i m) := fun m hm => by rw [ma_fr_o hf2 (by decide) (by decide)]; exact a3 m hm
          have r1 := hrg j
          have r2 := hrg k
          have wj : pb_I g2 196 (6 * j + k) = nI (W j k) := by
            rw [hv2.2 j k hj hk]
            unfold sp_wv
            rw [if_neg (by omega)]
          have ix : nI j * 6 + nI k = nI (6 * j + k) := by rw [lJ6, nI_add]
          have le : (mI (sp_rg K i j) ≤ mI (sp_rg K i k)) = (sp_rg K i j ≤ sp_rg K i k) := propext (mI_le (by omega) (by omega))
          by_cases q : sp_rg K i k < sp_rg K i j
          · refine ⟨(nI (k + 1), pb_pI g2 196 (6 * j + k) (nI (W j k + 1))), ?_, rfl, ma_fr_pI hf2 (.inl (by decide)) _, ?_, fun m o hm ho => ?_⟩
            · simp only [f_51_41s, if_pos (mi_194 H3), hv2.1, if_neg (nI_ge hk (show K 0 0 < 2 ^ 31 by omega)), mr_194_3 H3, Option.bind_some, if_pos (mx_197 H3 (show j < 6 by omega)), if_pos (mx_197 H3 (show k < 6 by omega)), nI_clamp (show j < 2 ^ 31 by omega), nI_clamp (show k < 2 ^ 31 by omega), e97 j hj, e97 k hk, le, if_neg (Nat.not_le.mpr q), mr_194_2 H3, ix, if_pos (mx_196 H3 (show 6 * j + k < 36 by omega)), nI_clamp (show 6 * j + k < 2 ^ 31 by omega), wj, nI_1]
            · show pb_I (pb_pI g2 196 _ _) 194 1 = _
              rw [ma_Ik, if_neg (by decide)]; exact hv2.1
            · show pb_I (pb_pI g2 196 _ _) 196 _ = _
              rw [ma_Ik, if_pos rfl]
              by_cases e : m = j ∧ o = k
              · rw [if_pos (by omega), e.1, e.2]
                unfold sp_wv
                rw [if_pos (by omega), if_pos q]
              · rw [if_neg (by omega), hv2.2 m o hm ho]
                unfold sp_wv
                by_cases l : m < j ∨ (m = j ∧ o < k)
                · rw [if_pos l, if_pos (show m < j ∨ (m = j ∧ o < k + 1) by omega)]
                · rw [if_neg l, if_neg (by omega)]
          · refine ⟨(nI (k + 1), g2), ?_, rfl, hf2, hv2.1, fun m o hm ho => ?_⟩
            · simp only [f_51_41s, if_pos (mi_194 H3), hv2.1, if_neg (nI_ge hk (show K 0 0 < 2 ^ 31 by omega)), mr_194_3 H3, Option.bind_some, if_pos (mx_197 H3 (show j < 6 by omega)), if_pos (mx_197 H3 (show k < 6 by omega)), nI_clamp (show j < 2 ^ 31 by omega), nI_clamp (show k < 2 ^ 31 by omega), e97 j hj, e97 k hk, le, if_pos (Nat.not_lt.mp q), nI_1]
            · rw [hv2.2 m o hm ho]
              unfold sp_wv
              by_cases l : m < j ∨ (m = j ∧ o < k)
              · rw [if_pos l, if_pos (show m < j ∨ (m = j ∧ o < k + 1) by omega)]
              · rw [if_neg l]
                by_cases e : m = j ∧ o = k
                · rw [if_pos (by omega), e.1, e.2, if_neg q]
                  rfl
                · rw [if_neg (by omega)]
        · rintro ⟨y, g2⟩ ⟨hy, hf2, hv2⟩
          dsimp only at hy hf2 hv2
          subst hy
          have H3 := ma_H_fr H1 hf2
          refine ⟨g2, ?_, hf2, hv2⟩
          simp only [f_51_41s, if_pos (mi_194 H3), hv2.1, if_pos (nI_le (Nat.le_refl _) (show K 0 0 < 2 ^ 31 by omega))]
      obtain ⟨g3, b1, b2, b3⟩ := l3
      refine ⟨(nI (j + 1), g3), ?_, rfl, b2, b3.1, fun m o hm ho => ?_⟩
      · simp only [f_51_30s, if_pos (mi_194 H2), hv.1, if_neg (nI_ge hj (show K 0 0 < 2 ^ 31 by omega)), b1, Option.bind_some, nI_1]
      · rw [b3.2 m o hm ho]
        unfold sp_wv
        by_cases l : m < j ∨ (m = j ∧ o < K 0 0)
        · rw [if_pos l, if_pos (show m < j + 1 ∨ (m = j + 1 ∧ o < 0) by omega)]
        · rw [if_neg l, if_neg (by omega)]
    · rintro ⟨x, g⟩ ⟨hx, hf, hv⟩
      dsimp only at hx hf hv
      subst hx
      have H2 := ma_H_fr H1 hf
      refine ⟨g, ?_, hf, hv⟩
      simp only [f_51_30s, if_pos (mi_194 H2), hv.1, if_pos (nI_le (Nat.le_refl _) (show K 0 0 < 2 ^ 31 by omega))]
  obtain ⟨g2, b1, b2, b3⟩ := l2
  refine ⟨g2, ?_, ma_fr_t (ma_fr_w a2 (by decide) (by decide)) (ma_fr_w b2 (by decide) (by decide)), b3⟩
  simp only [f_51, a1, b1, Option.bind_some]
theorem c_50 (H : ma_H h) (V : ma_V h c K) (O : ma_OK K) (hc : c = 3 ∨ c = 10) (hN : 3000 < N) : ∃ g, f_50 N h 194 c = some g ∧ ma_fr [194, 196, 197] [] h g ∧ ma_wn g (K 0 0) (sp_du K) := by
  have hme := O.1
  have hch := O.2.1
  obtain ⟨g0, z1, z2, z3⟩ := c_306 (h := pb_pI h 194 1 (nI (K 0 0))) (N := N) (o := 196) (n := 36) H.1 (by decide) sh_196 (by decide) 0 hN
  have f0 : ma_fr [194, 196, 197] [] h g0 := ma_fr_t (ma_fr_pI (ma_fr_r _ _ _) (.inl (by decide)) _) (ma_fr_w z2 (by decide) (by decide))
  have H0 := ma_H_fr H f0
  have hV : ∀ g, ma_fr [194, 196, 197] [] h g → ma_V g c K := fun g f => ma_V_e V (fun o a b => ma_fr_o f (by simp; omega) (by simp))
  have l1 : ∃ e, pb_wl (f_50_18s N 194 c) N (0, g0) = some e ∧ (ma_fr [194, 196, 197] [] h e ∧ ma_wn e (K 0 0) (sp_du K)) := by
    refine ma_lh (fun j s => s.1 = nI j ∧ ma_fr [194, 196, 197] [] h s.2 ∧ ma_wn s.2 (K 0 0) (sp_duj K j)) _ (K 0 1) 0 N _ (by omega) (by omega) ⟨rfl, f0, ?_, fun m o hm ho => ?_⟩ ?_ ?_
    · show pb_I g0 194 1 = _
      rw [ma_fr_o z2 (by decide) (by decide)]; rfl
    · exact z3 (6 * m + o) (by omega)
    · rintro j ⟨x, g⟩ _ hj ⟨hx, hf, hv⟩
      dsimp only at hx hf hv
      subst hx
      left
      have H2 := ma_H_fr H hf
      have V2 := hV g hf
      have v := c_7 H2 V2 O (show j < 6 by omega)
      by_cases q : sp_vt K j = true
      · obtain ⟨g2, a1, a2, a3⟩ := c_51 (N := N) H2 V2 O hc hv (show j < 6 by omega) hN
        refine ⟨(nI (j + 1), g2), ?_, rfl, ma_fr_t hf (ma_fr_w a2 (by decide) (by decide)), a3.1, fun m o hm ho => ?_⟩
        · rw [if_pos ⟨hj, q⟩] at v
          simp only [f_50_18s, if_pos (wv_is H2 V2.1), V2.2.2.1, if_neg (nI_ge hj (show K 0 1 < 2 ^ 31 by omega)), v, Option.bind_some, i10, if_false, if_pos (mi_194 H2), a1, nI_1]
        · rw [a3.2 m o hm ho]
          unfold sp_wv
          rw [if_pos (.inl hm)]
          show nI (sp_duj K j m o + _) = nI (if sp_vt K j ∧ sp_rg K j o < sp_rg K j m then sp_duj K j m o + 1 else sp_duj K j m o)
          by_cases l : sp_rg K j o < sp_rg K j m
          · rw [if_pos l, if_pos ⟨q, l⟩]
          · rw [if_neg l, if_neg (fun z => l z.2)]; rfl
      · refine ⟨(nI (j + 1), g), ?_, rfl, hf, hv.1, fun m o hm ho => ?_⟩
        · rw [if_neg (fun z => q z.2)] at v
          simp only [f_50_18s, if_pos (wv_is H2 V2.1), V2.2.2.1, if_neg (nI_ge hj (show K 0 1 < 2 ^ 31 by omega)), v, Option.bind_some, if_true, nI_1]
        · rw [hv.2 m o hm ho]
          show _ = nI (if sp_vt K j ∧ sp_rg K j o < sp_rg K j m then sp_duj K j m o + 1 else sp_duj K j m o)
          rw [if_neg (fun z => q z.1)]
    · rintro ⟨x, g⟩ ⟨hx, hf, hv⟩
      dsimp only at hx hf hv
      subst hx
      have H2 := ma_H_fr H hf
      have V2 := hV g hf
      refine ⟨g, ?_, hf, hv⟩
      simp only [f_50_18s, if_pos (wv_is H2 V2.1), V2.2.2.1, if_pos (nI_le (Nat.le_refl _) (show K 0 1 < 2 ^ 31 by omega))]
  obtain ⟨g, a1, a2⟩ := l1
  refine ⟨g, ?_, a2⟩
  simp only [f_50, if_pos (wv_is H V.1), if_pos (mi_194 H), mr_194_2 H, Option.bind_some, V.2.1, z1, a1]
theorem c_52 (H : ma_H h) {men : Nat} (hme : men ≤ 6) {W : Nat → Nat → Nat} (w : ma_wn h men W) {a b : Nat} (ha : a < men) (hb : b < men) : f_52 h 194 (nI a) (nI b) = some (nI (W a b)) := by
  have ix : nI a * 6 + nI b = nI (6 * a + b) := by rw [lJ6, nI_add]
  simp only [f_52, if_pos (mi_194 H), mr_194_2 H, Option.bind_some, ix, if_pos (mx_196 H (show 6 * a + b < 36 by omega)), nI_clamp (show 6 * a + b < 2 ^ 31 by omega), w.2 a b ha hb]
theorem sp_rg_puts (K : ma_K) (i a b : Nat) : sp_rg K i b < sp_rg K i a ↔ (sp_dr K i a = false ∧ (sp_dr K i b = true ∨ sp_ls K i (K 2 b) < sp_ls K i (K 2 a))) := by
  unfold sp_rg
  cases sp_dr K i a <;> cases sp_dr K i b <;> simp
theorem m_259 (H : ma_H h) (hM : ma_M h K) (O : ma_OK K) {i a b : Nat} (hi : i < 6) (ha : a < 6) (hb : b < 6) (hN : 3000 < N) : f_259 N h 217 (nI i) (nI a) (nI b) = some (if sp_rg K i b < sp_rg K i a then 1 else 0) := by
  have s1 := ma_sl O i (K 2 a)
  have s2 := ma_sl O i (K 2 b)
  have b1 := (O.2.2.1 a).2.1
  have b2 := (O.2.2.1 b).2.1
  have e1 := m_205 H hM hi ha O
  have e2 := m_205 H hM hi hb O
  have e3 := m_204 (N := N) H hM hi b1 hN
  have e4 := m_204 (N := N) H hM hi b2 hN
  have le : (nI (sp_ls K i (K 2 a)) ≤ nI (sp_ls K i (K 2 b))) = (sp_ls K i (K 2 a) ≤ sp_ls K i (K 2 b)) := propext (nI_leI (by omega) (by omega))
  simp only [f_259, if_pos (mi_217 H), e1, e2, Option.bind_some, ma_b0, mr_217_30 H, if_pos (mx_228 H ha), if_pos (mx_228 H hb), nI_clamp (show a < 2 ^ 31 by omega), nI_clamp (show b < 2 ^ 31 by omega), hM.2.2.1 a ha, hM.2.2.1 b hb, e3, e4, le, sp_rg_puts]
  cases sp_dr K i a <;> cases sp_dr K i b <;> simp
  by_cases q : sp_ls K i (K 2 a) ≤ sp_ls K i (K 2 b)
  · rw [if_pos q, if_neg (by omega)]
  · rw [if_neg q, if_pos (by omega)]
theorem m_260 (H : ma_H h) (hM : ma_M h K) (O : ma_OK K) {a b : Nat} (ha : a < 6) (hb : b < 6) (hN : 3000 < N) : f_260 N h 217 (nI a) (nI b) = some (nI (sp_du K a b)) := by
  have hch := O.2.1
  have hl : pb_wl (f_260_5s N h 217 (nI a) (nI b)) N (0, 0) = some (nI (sp_du K a b)) := by
    refine ma_lq (fun j s => (nI s, nI j)) (fun c n => if sp_vt K c ∧ sp_rg K c b < sp_rg K c a then n + 1 else n) (K 0 1) (by omega) rfl (fun j s hj => ?_) ?_
    · by_cases q1 : sp_vt K j = true <;> by_cases q2 : sp_rg K j b < sp_rg K j a <;> simp (disch := first | exact mi_217 H | omega) only [f_260_5s, nI_1, nI_add, pk_mul, pk_sub, nI_leI, nI_ltI, nI_eq, nI_clamp, Option.bind_some, ma_b0, ma_p0, if_true, if_false, mE, mF, mI_lt, mI_le, mI_eq, mI_s, nm_le, nm_lt, mn_le, mn_lt, nm_eq, mn_eq, if_pos, if_neg, ma_Ik, ma_R_pI, ma_R_pW, ma_I_pW, ma_1_pI, ma_1_pW, ma_bit, ma_has, ma_shl, fa_or, fa_and, lA0, lB0, lC0, lD0, lE0, lF0, lG0, lH0, lA1, lB1, lC1, lD1, lE1, lF1, lG1, lH1, lK1, lA2, lB2, lC2, lD2, lE2, lF2, lG2, lH2, lK2, lI2, lJ2, lL2, lA5, lB5, lC5, lD5, lE5, lF5, lG5, lH5, lK5, lI5, lJ5, lL5, lA6, lB6, lC6, lD6, lE6, lF6, lG6, lH6, lK6, lI6, lJ6, lL6, lA7, lB7, lC7, lD7, lE7, lF7, lG7, lH7, lK7, lI7, lJ7, lL7, lA10, lB10, lC10, lD10, lE10, lF10, lG10, lH10, lK10, lI10, lJ10, lL10, mr_217_30 H, mr_217_31 H, mr_217_32 H, mr_217_33 H, mr_217_34 H, mr_217_35 H, hM.1, hM.2.1, hM.2.2.1, hM.2.2.2.1, hM.2.2.2.2.1, hM.2.2.2.2.2.1, hM.2.2.2.2.2.2, m_202 H hM O, m_259 H hM O _ ha hb hN, q1, q2, i10, i01, true_or, or_true, false_or, or_false, true_and, and_true, and_false, false_and, not_true_eq_false, not_false_eq_true, if_true, if_false, eq_self, Bool.true_eq_false, Bool.false_eq_true]
    · simp (disch := first | exact mi_217 H | omega) only [f_260_5s, nI_1, nI_add, pk_mul, pk_sub, nI_leI, nI_ltI, nI_eq, nI_clamp, Option.bind_some, ma_b0, ma_p0, if_true, if_false, mE, mF, mI_lt, mI_le, mI_eq, mI_s, nm_le, nm_lt, mn_le, mn_lt, nm_eq, mn_eq, if_pos, if_neg, ma_Ik, ma_R_pI, ma_R_pW, ma_I_pW, ma_1_pI, ma_1_pW, ma_bit, ma_has, ma_shl, fa_or, fa_and, lA0, lB0, lC0, lD0, lE0, lF0, lG0, lH0, lA1, lB1, lC1, lD1, lE1, lF1, lG1, lH1, lK1, lA2, lB2, lC2, lD2, lE2, lF2, lG2, lH2, lK2, lI2, lJ2, lL2, lA5, lB5, lC5, lD5, lE5, lF5, lG5, lH5, lK5, lI5, lJ5, lL5, lA6, lB6, lC6, lD6, lE6, lF6, lG6, lH6, lK6, lI6, lJ6, lL6, lA7, lB7, lC7, lD7, lE7, lF7, lG7, lH7, lK7, lI7, lJ7, lL7, lA10, lB10, lC10, lD10, lE10, lF10, lG10, lH10, lK10, lI10, lJ10, lL10, mr_217_30 H, mr_217_31 H, mr_217_32 H, mr_217_33 H, mr_217_34 H, mr_217_35 H, hM.1, hM.2.1, hM.2.2.1, hM.2.2.2.1, hM.2.2.2.2.1, hM.2.2.2.2.2.1, hM.2.2.2.2.2.2] <;> rfl
  simp only [f_260, hl, Option.bind_some]
/-- who beats all others -/
def sp_bt (K : ma_K) (m : Nat) : Prop := ∀ o, o < K 0 0 → o ≠ m → sp_du K o m < sp_du K m o
theorem ma_cn_all {q : Nat → Bool} : ∀ n, ma_cn q n = n ↔ ∀ m, m < n → q m = true
  | 0 => ⟨fun _ m hm => absurd hm (Nat.not_lt_zero m), fun _ => rfl⟩
  | n + 1 => by
    have ih := ma_cn_all (q := q) n
    have hl := ma_cn_le q n
    rw [ma_cn_s]
    constructor
    · intro e m hm
      by_cases z : q n = true
      · rw [if_pos z] at e
        by_cases y : m = n
        · rw [y]; exact z
        · exact ih.mp (by omega) m (by omega)
      · rw [if_neg z] at e; omega
    · intro e
      rw [if_pos (e n (by omega)), ih.mpr (fun m hm => e m (by omega))]
theorem sp_bt_cn {K : ma_K} {m : Nat} (hm : m < K 0 0) : ma_cn (fun o => decide (sp_du K o m < sp_du K m o)) (K 0 0) + 1 = K 0 0 ↔ sp_bt K m := by
  have e1 := ma_cn_rm (q := fun o => decide (sp_du K o m < sp_du K m o) || decide (o = m)) (g := m) (by simp) (K 0 0) hm
  have e2 : ma_cn (fun o => (decide (sp_du K o m < sp_du K m o) || decide (o = m)) && decide (o ≠ m)) (K 0 0) = ma_cn (fun o => decide (sp_du K o m < sp_du K m o)) (K 0 0) := ma_cn_cong _ (fun o ho => by
    by_cases z : o = m
    · subst z; simp
    · simp [z])
  rw [e2] at e1
  rw [e1, ma_cn_all]
  unfold sp_bt
  constructor
  · intro h o ho hn
    have := h o ho
    simpa [hn] using this
  · intro h o ho
    by_cases z : o = m
    · simp [z]
    · simp [h o ho z]
theorem c_53 (H : ma_H h) (O : ma_OK K) (w : ma_wn h (K 0 0) (sp_du K)) (hN : 3000 < N) : ((∀ m, m < K 0 0 → ¬ sp_bt K m) → f_53 N h 194 = some (-1)) ∧ ∀ m, m < K 0 0 → sp_bt K m → (∀ j, j < m → ¬ sp_bt K j) → f_53 N h 194 = some (nI m) := by
  have hme := O.1
  have hd := sp_du_le O
  have hi : ∀ m, m < K 0 0 → pb_wl (f_53_14s N h 194 (nI m)) N (0, 0) = some (nI (ma_cn (fun o => decide (sp_du K o m < sp_du K m o)) (K 0 0))) := by
    intro m hm
    refine ma_lq (fun j s => (nI s, nI j)) (fun o a => if decide (sp_du K o m < sp_du K m o) then a + 1 else a) (K 0 0) (by omega) rfl (fun j s hj => ?_) ?_
    · have d1 := hd m j
      have d2 := hd j m
      have le : (nI (sp_du K m j) ≤ nI (sp_du K j m)) = (sp_du K m j ≤ sp_du K j m) := propext (nI_leI (by omega) (by omega))
      simp only [f_53_14s, if_pos (mi_194 H), w.1, if_neg (nI_ge hj (show K 0 0 < 2 ^ 31 by omega)), c_52 H hme w hm hj, c_52 H hme w hj hm, Option.bind_some, le, decide_eq_true_eq, nI_1]
      by_cases q : sp_du K j m < sp_du K m j
      · rw [if_neg (by omega), if_pos q]
      · rw [if_pos (by omega), if_neg q]
    · simp only [f_53_14s, if_pos (mi_194 H), w.1, if_pos (nI_le (Nat.le_refl _) (show K 0 0 < 2 ^ 31 by omega))]
      rfl
  have st : ∀ m, m < K 0 0 → (sp_bt K m → f_53_2s N h 194 (nI m) = some (.inr (.inl (nI m)))) ∧ (¬ sp_bt K m → f_53_2s N h 194 (nI m) = some (.inl (nI (m + 1)))) := by
    intro m hm
    have hl := ma_cn_le (fun o => decide (sp_du K o m < sp_du K m o)) (K 0 0)
    have hm1 : nI (K 0 0) - 1 = nI (K 0 0 - 1) := lK1 (by omega)
    have eq : (nI (ma_cn (fun o => decide (sp_du K o m < sp_du K m o)) (K 0 0)) = nI (K 0 0 - 1)) = (ma_cn (fun o => decide (sp_du K o m < sp_du K m o)) (K 0 0) = K 0 0 - 1) := propext (nI_eq (by omega) (by omega))
    have hb := sp_bt_cn hm
    refine ⟨fun b => ?_, fun b => ?_⟩
    · simp only [f_53_2s, if_pos (mi_194 H), w.1, if_neg (nI_ge hm (show K 0 0 < 2 ^ 31 by omega)), hi m hm, Option.bind_some, hm1, eq]
      rw [if_neg (fun z => z (by have := hb.mpr b; omega))]
    · simp only [f_53_2s, if_pos (mi_194 H), w.1, if_neg (nI_ge hm (show K 0 0 < 2 ^ 31 by omega)), hi m hm, Option.bind_some, hm1, eq, nI_1]
      rw [if_pos (fun z => b (hb.mp (by omega)))]
  refine ⟨fun hno => ?_, fun m hm hb hj => ?_⟩
  · have hl : pb_wl (f_53_2s N h 194) N 0 = some (.inr ()) := by
      refine ma_wl (fun j => nI j) (K 0 0) N 0 (by omega) (fun j _ hj => (st j (by omega)).2 (hno j (by omega))) ?_
      rw [Nat.zero_add]
      simp only [f_53_2s, if_pos (mi_194 H), w.1, if_pos (nI_le (Nat.le_refl _) (show K 0 0 < 2 ^ 31 by omega))]
    simp only [f_53, hl, Option.bind_some]
  · have hl : pb_wl (f_53_2s N h 194) N 0 = some (.inl (nI m)) := by
      refine ma_wl (fun j => nI j) m N 0 (by omega) (fun j _ hjm => (st j (by omega)).2 (hj j (by omega))) ?_
      rw [Nat.zero_add]
      exact (st m hm).1 hb
    simp only [f_53, hl, Option.bind_some]
theorem m_262 (H : ma_H h) (hM : ma_M h K) (O : ma_OK K) (hN : 3000 < N) : ((∀ m, m < K 0 0 → ¬ sp_bt K m) → f_262 N h 217 = some (-1)) ∧ ∀ m, m < K 0 0 → sp_bt K m → (∀ j, j < m → ¬ sp_bt K j) → f_262 N h 217 = some (nI m) := by
  have hme := O.1
  have hd := sp_du_le O
  have hi : ∀ m, m < K 0 0 → pb_wl (f_262_14s N h 217 (nI m)) N (1, 0) = some (if ma_fo (fun o a => a && (decide (m = o) || decide (sp_du K o m < sp_du K m o))) (K 0 0) true then 1 else 0) := by
    intro m hm
    refine ma_lq (fun j (s : Bool) => ((if s then 1 else 0), nI j)) (fun o a => a && (decide (m = o) || decide (sp_du K o m < sp_du K m o))) (K 0 0) (a0 := true) (by omega) rfl (fun j s hj => ?_) ?_
    · have d1 := hd m j
      have d2 := hd j m
      have le : (nI (sp_du K m j) ≤ nI (sp_du K j m)) = (sp_du K m j ≤ sp_du K j m) := propext (nI_leI (by omega) (by omega))
      have eq : (nI m = nI j) = (m = j) := propext (nI_eq (by omega) (by omega))
      simp only [f_262_14s, if_pos (mi_217 H), hM.1, if_neg (nI_ge hj (show K 0 0 < 2 ^ 31 by omega)), m_260 H hM O (show m < 6 by omega) (show j < 6 by omega) hN, m_260 H hM O (show j < 6 by omega) (show m < 6 by omega) hN, Option.bind_some, le, eq, nI_1, ma_b0]
      cases s
      · simp
      · by_cases q1 : m = j
        · simp [q1]
        · by_cases q : sp_du K j m < sp_du K m j
          · simp [q1, q, Nat.not_le.mpr q]
          · simp [q1, q, Nat.not_lt.mp q]
    · simp only [f_262_14s, if_pos (mi_217 H), hM.1, if_pos (nI_le (Nat.le_refl _) (show K 0 0 < 2 ^ 31 by omega))]
  have all : ∀ m n, ma_fo (fun o a => a && (decide (m = o) || decide (sp_du K o m < sp_du K m o))) n true = true ↔ ∀ o, o < n → o ≠ m → sp_du K o m < sp_du K m o := by
    intro m n
    induction n with
    | zero => exact ⟨fun _ o ho => absurd ho (Nat.not_lt_zero o), fun _ => rfl⟩
    | succ n ih =>
      rw [ma_fo_s]
      rw [Bool.and_eq_true, ih]
      constructor
      · rintro ⟨x, y⟩ o ho hn
        by_cases z : o = n
        · subst z
          have : ¬ m = o := fun w => hn w.symm
          simpa [this] using y
        · exact x o (by omega) hn
      · intro x
        refine ⟨fun o ho hn => x o (by omega) hn, ?_⟩
        by_cases z : m = n
        · simp [z]
        · have := x n (by omega) (fun w => z w.symm)
          simp [this]
  have st : ∀ m, m < K 0 0 → (sp_bt K m → f_262_2s N h 217 (nI m) = some (.inr (.inl (nI m)))) ∧ (¬ sp_bt K m → f_262_2s N h 217 (nI m) = some (.inl (nI (m + 1)))) := by
    intro m hm
    have ha := all m (K 0 0)
    refine ⟨fun b => ?_, fun b => ?_⟩
    · have e := hi m hm
      rw [ha.mpr b] at e
      simp only [f_262_2s, if_pos (mi_217 H), hM.1, if_neg (nI_ge hm (show K 0 0 < 2 ^ 31 by omega)), e, Option.bind_some, if_true, i10, if_false]
    · have e := hi m hm
      rw [Bool.eq_false_iff.mpr (fun z => b (ha.mp z))] at e
      simp only [f_262_2s, if_pos (mi_217 H), hM.1, if_neg (nI_ge hm (show K 0 0 < 2 ^ 31 by omega)), e, Option.bind_some, Bool.false_eq_true, if_true, if_false, nI_1]
  refine ⟨fun hno => ?_, fun m hm hb hj => ?_⟩
  · have hl : pb_wl (f_262_2s N h 217) N 0 = some (.inr ()) := by
      refine ma_wl (fun j => nI j) (K 0 0) N 0 (by omega) (fun j _ hj => (st j (by omega)).2 (hno j (by omega))) ?_
      rw [Nat.zero_add]
      simp only [f_262_2s, if_pos (mi_217 H), hM.1, if_pos (nI_le (Nat.le_refl _) (show K 0 0 < 2 ^ 31 by omega))]
    simp only [f_262, hl, Option.bind_some]
  · have hl : pb_wl (f_262_2s N h 217) N 0 = some (.inl (nI m)) := by
      refine ma_wl (fun j => nI j) m N 0 (by omega) (fun j _ hjm => (st j (by omega)).2 (hj j (by omega))) ?_
      rw [Nat.zero_add]
      exact (st m hm).1 hb
    simp only [f_262, hl, Option.bind_some]
def sp_sc (K : ma_K) (m : Nat) : Nat := ma_fo (fun o a => a + sp_du K m o) (K 0 0) 0
theorem c_54 (H : ma_H h) (O : ma_OK K) (w : ma_wn h (K 0 0) (sp_du K)) {m : Nat} (hm : m < K 0 0) (hN : 3000 < N) : f_54 N h 194 (nI m) = some (nI (sp_sc K m)) := by
  have hme := O.1
  have hl : pb_wl (f_54_19s N h 194 (nI m)) N (0, 0) = some (nI (sp_sc K m)) := by
    refine ma_lq (fun j s => (nI s, nI j)) (fun o a => a + sp_du K m o) (K 0 0) (by omega) rfl (fun j s hj => ?_) ?_
    · simp only [f_54_19s, if_pos (mi_194 H), w.1, if_neg (nI_ge hj (show K 0 0 < 2 ^ 31 by omega)), c_52 H hme w hm hj, Option.bind_some, nI_add, nI_1]
    · simp only [f_54_19s, if_pos (mi_194 H), w.1, if_pos (nI_le (Nat.le_refl _) (show K 0 0 < 2 ^ 31 by omega))]
      rfl
  simp only [f_54, if_neg (nI_pos (show m < 2 ^ 31 by omega)), if_pos (mi_194 H), w.1, if_pos (nI_lt hm (show K 0 0 < 2 ^ 31 by omega)), hl, Option.bind_some]
theorem c_54n (H : ma_H h) {men : Nat} {W : Nat → Nat → Nat} (w : ma_wn h men W) {x : Int32} (hx : ma_at x men = false) : f_54 N h 194 x = some (-2) := by
  unfold f_54
  by_cases q : x < 0
  · rw [if_pos q]
  · rw [if_neg q, if_pos (mi_194 H), w.1, if_neg]
    rcases ma_at_no hx with z | z
    · exact absurd z q
    · rw [Int32.not_lt]; exact z
theorem m_263 (H : ma_H h) (hM : ma_M h K) (O : ma_OK K) {m : Nat} (hm : m < K 0 0) (hN : 3000 < N) : f_263 N h 217 (nI m) = some (nI (sp_sc K m)) := by
  have hme := O.1
  have hl : pb_wl (f_263_4s N h 217 (nI m)) N (0, 0) = some (nI (sp_sc K m)) := by
    refine ma_lq (fun j s => (nI s, nI j)) (fun o a => a + sp_du K m o) (K 0 0) (by omega) rfl (fun j s hj => ?_) ?_
    · have eq : (nI m = nI j) = (m = j) := propext (nI_eq (by omega) (by omega))
      simp only [f_263_4s, if_pos (mi_217 H), hM.1, if_neg (nI_ge hj (show K 0 0 < 2 ^ 31 by omega)), eq, m_260 H hM O (show m < 6 by omega) (show j < 6 by omega) hN, Option.bind_some, nI_add, nI_1]
      by_cases q : m = j
      · rw [if_neg (fun z => z q), q, sp_du_self, lH0]; rfl
      · rw [if_pos q]
    · simp only [f_263_4s, if_pos (mi_217 H), hM.1, if_pos (nI_le (Nat.le_refl _) (show K 0 0 < 2 ^ 31 by omega))]
      rfl
  simp only [f_263, hl, Option.bind_some]
theorem ma_dlq {g : pb_HP} (f : ma_fr [194, 196, 197] [] h g) : ma_q h g := ma_q_fr f (by decide)
end
section
variable {h : pb_HP} {N : Nat}
theorem q_duel (I : ma_INV h) (hN : 3000 < N) (x y z : Int32) : ma_Q h (f_142 N h 0 x y z) (fun g => f_261 N g 217 x y z) := by
  have H := I.1
  have hq : ma_q h (pb_pI h 217 0 0) := ma_q_pI (ma_q_r h) (by decide) 0 0
  rcases ma_W I hN x with ⟨e1, e2⟩ | ⟨c, K, e1, hc, O, OT, V, e2⟩
  · exact ⟨-1, h, pb_pI h 217 0 0, by simp only [f_142, if_pos (mi_0 H), mr_0_0 H, Option.bind_some, if_pos (mi_1 H), e1], ma_q_r h, by simp only [f_261, if_pos (mi_217 H), e2 _ hq, Option.bind_some, i10, i01, true_or, or_true, false_or, or_false, true_and, and_true, and_false, false_and, not_true_eq_false, not_false_eq_true, if_true, if_false, eq_self, ma_b0, Bool.false_eq_true, Bool.true_eq_false, reduceCtorEq], hq⟩
  · have hO := O.1
    cases qm : ma_at y (K 0 0)
    · obtain ⟨g, e3, q3, B⟩ := e2 _ hq
      exact ⟨-1, h, g, by simp only [f_142, if_pos (mi_0 H), mr_0_0 H, Option.bind_some, if_pos (mi_1 H), e1, if_pos (wv_is H V.1), c_3 H V, qm, i10, i01, true_or, or_true, false_or, or_false, true_and, and_true, and_false, false_and, not_true_eq_false, not_false_eq_true, if_true, if_false, eq_self, ma_b0, Bool.false_eq_true, Bool.true_eq_false, reduceCtorEq], ma_q_r h, by simp only [f_261, if_pos (mi_217 H), e3, Option.bind_some, if_pos (mi_217 B.1), m_200 B.1 B.2.1 O, qm, i10, i01, true_or, or_true, false_or, or_false, true_and, and_true, and_false, false_and, not_true_eq_false, not_false_eq_true, if_true, if_false, eq_self, ma_b0, Bool.false_eq_true, Bool.true_eq_false, reduceCtorEq], ma_q_t hq q3⟩
    · have qy := qm
      clear qm
      cases qm : ma_at z (K 0 0)
      · obtain ⟨g, e3, q3, B⟩ := e2 _ hq
        exact ⟨-1, h, g, by simp only [f_142, if_pos (mi_0 H), mr_0_0 H, Option.bind_some, if_pos (mi_1 H), e1, if_pos (wv_is H V.1), c_3 H V, qy, qm, i10, i01, true_or, or_true, false_or, or_false, true_and, and_true, and_false, false_and, not_true_eq_false, not_false_eq_true, if_true, if_false, eq_self, ma_b0, Bool.false_eq_true, Bool.true_eq_false, reduceCtorEq], ma_q_r h, by simp only [f_261, if_pos (mi_217 H), e3, Option.bind_some, if_pos (mi_217 B.1), m_200 B.1 B.2.1 O, qy, qm, i10, i01, true_or, or_true, false_or, or_false, true_and, and_true, and_false, false_and, not_true_eq_false, not_false_eq_true, if_true, if_false, eq_self, ma_b0, Bool.false_eq_true, Bool.true_eq_false, reduceCtorEq], ma_q_t hq q3⟩
      · obtain ⟨a, ha, rfl⟩ := ma_at_ex (by omega) qy
        obtain ⟨b, hb, rfl⟩ := ma_at_ex (by omega) qm
        have eq : (nI a = nI b) = (a = b) := propext (nI_eq (by omega) (by omega))
        by_cases qe : a = b
        · obtain ⟨g, e3, q3, B⟩ := e2 _ hq
          exact ⟨-1, h, g, by simp only [f_142, if_pos (mi_0 H), mr_0_0 H, Option.bind_some, if_pos (mi_1 H), e1, if_pos (wv_is H V.1), c_3 H V, qy, qm, eq, qe, i10, i01, true_or, or_true, false_or, or_false, true_and, and_true, and_false, false_and, not_true_eq_false, not_false_eq_true, if_true, if_false, eq_self, ma_b0, Bool.false_eq_true, Bool.true_eq_false, reduceCtorEq], ma_q_r h, by simp only [f_261, if_pos (mi_217 H), e3, Option.bind_some, if_pos (mi_217 B.1), m_200 B.1 B.2.1 O, qm, qy, eq, qe, i10, i01, true_or, or_true, false_or, or_false, true_and, and_true, and_false, false_and, not_true_eq_false, not_false_eq_true, if_true, if_false, eq_self, ma_b0, Bool.false_eq_true, Bool.true_eq_false, reduceCtorEq], ma_q_t hq q3⟩
        · obtain ⟨g1, a1, a2, a3⟩ := c_50 (N := N) H V O hc hN
          have H1 := ma_H_fr H a2
          have qg := ma_dlq a2
          obtain ⟨g, e3, q3, B⟩ := e2 _ (ma_q_pI qg (by decide : ¬ ma_ps 217) 0 0)
          exact ⟨nI (sp_du K a b), g1, g, by simp only [f_142, if_pos (mi_0 H), mr_0_0 H, Option.bind_some, if_pos (mi_1 H), e1, if_pos (wv_is H V.1), c_3 H V, qy, qm, eq, qe, mr_0_6 H, if_pos (mi_194 H), a1, if_pos (mi_0 H1), mr_0_6 H1, if_pos (mi_194 H1), c_52 H1 hO a3 ha hb, i10, i01, true_or, or_true, false_or, or_false, true_and, and_true, and_false, false_and, not_true_eq_false, not_false_eq_true, if_true, if_false, eq_self, ma_b0, Bool.false_eq_true, Bool.true_eq_false, reduceCtorEq], qg, by simp only [f_261, if_pos (mi_217 H1), e3, Option.bind_some, if_pos (mi_217 B.1), m_200 B.1 B.2.1 O, qm, qy, eq, qe, m_260 B.1 B.2.1 O (show a < 6 by omega) (show b < 6 by omega) hN, i10, i01, true_or, or_true, false_or, or_false, true_and, and_true, and_false, false_and, not_true_eq_false, not_false_eq_true, if_true, if_false, eq_self, ma_b0, Bool.false_eq_true, Bool.true_eq_false, reduceCtorEq], ma_q_t (ma_q_pI (ma_q_r g1) (by decide) 0 0) q3⟩
theorem q_best (I : ma_INV h) (hN : 3000 < N) (x y : Int32) : ma_Q h (f_143 N h 0 x y) (fun g => f_270 N g 217 x y) := by
  have H := I.1
  have hq : ma_q h (pb_pI h 217 0 0) := ma_q_pI (ma_q_r h) (by decide) 0 0
  rcases ma_W I hN x with ⟨e1, e2⟩ | ⟨c, K, e1, hc, O, OT, V, e2⟩
  · exact ⟨-2, h, pb_pI h 217 0 0, by simp only [f_143, if_pos (mi_0 H), mr_0_0 H, Option.bind_some, if_pos (mi_1 H), e1], ma_q_r h, by simp only [f_270, if_pos (mi_217 H), e2 _ hq, Option.bind_some, i10, i01, true_or, or_true, false_or, or_false, true_and, and_true, and_false, false_and, not_true_eq_false, not_false_eq_true, if_true, if_false, eq_self, ma_b0, Bool.false_eq_true, Bool.true_eq_false, reduceCtorEq], hq⟩
  · have hO := O.1
    have hgl : sp_gu K - 1 < 64 := by
      have := sp_gu_inv K (2 ^ K 0 0)
      have := ma_p2 hO
      unfold sp_gu
      omega
    by_cases y0 : y = 0
    · subst y0
      obtain ⟨g1, a1, a2, a3⟩ := c_50 (N := N) H V O hc hN
      have H1 := ma_H_fr H a2
      have qg := ma_dlq a2
      obtain ⟨g, e3, q3, B⟩ := e2 _ (ma_q_pI qg (by decide : ¬ ma_ps 217) 0 0)
      have c1 := c_53 (N := N) H1 O a3 hN
      have m1 := m_262 (N := N) B.1 B.2.1 O hN
      have ex : ∃ r, f_53 N g1 194 = some r ∧ f_262 N g 217 = some r := by
        by_cases hb : ∃ m, m < K 0 0 ∧ sp_bt K m
        · obtain ⟨m, hm, hl⟩ := pk_least (fun m => m < K 0 0 ∧ sp_bt K m) hb
          have hj : ∀ j, j < m → ¬ sp_bt K j := fun j hj z => hl j hj ⟨by omega, z⟩
          exact ⟨_, c1.2 m hm.1 hm.2 hj, m1.2 m hm.1 hm.2 hj⟩
        · have hj : ∀ m, m < K 0 0 → ¬ sp_bt K m := fun m hm z => hb ⟨m, hm, z⟩
          exact ⟨_, c1.1 hj, m1.1 hj⟩
      obtain ⟨r, r1, r2⟩ := ex
      exact ⟨r, g1, g, by simp only [f_143, if_pos (mi_0 H), mr_0_0 H, Option.bind_some, if_pos (mi_1 H), e1, if_true, f_143_26, mr_0_6 H, if_pos (mi_194 H), a1, not_true_eq_false, if_false, if_pos (mi_0 H1), mr_0_6 H1, if_pos (mi_194 H1), r1, eq_self], qg, by simp only [f_270, if_pos (mi_217 H1), e3, Option.bind_some, i10, not_false_eq_true, if_true, (show ((0 : Int32) < 10) = True from eq_true (by decide)), if_pos (mi_217 B.1), r2, eq_self], ma_q_t (ma_q_pI (ma_q_r g1) (by decide) 0 0) q3⟩
    by_cases y10 : y < 10
    · by_cases n1 : y = 1
      · subst n1
        obtain ⟨g, e3, q3, B⟩ := e2 _ hq
        have c1 := c_14 (N := N) H V O hN
        have m1 := m_264 (N := N) B.1 B.2.1 O hN
        exact ⟨nI (sp_ss K), h, g, by simp only [f_143, if_pos (mi_0 H), mr_0_0 H, Option.bind_some, if_pos (mi_1 H), e1, (show ((1 : Int32) = 0) = False from eq_false (by decide)), (show ((1 : Int32) = 1) = True from eq_true rfl), (show ((1 : Int32) = 2) = False from eq_false (by decide)), (show ((1 : Int32) = 3) = False from eq_false (by decide)), (show ((1 : Int32) = 4) = False from eq_false (by decide)), (show ((1 : Int32) = 5) = False from eq_false (by decide)), (show ((1 : Int32) = 6) = False from eq_false (by decide)), (show ((1 : Int32) < 10) = True from eq_true (by decide)), Option.bind_some, ↓reduceIte, f_13, if_pos (wv_is H V.1), c1], ma_q_r h, by simp only [f_270, if_pos (mi_217 H), e3, Option.bind_some, i10, not_false_eq_true, if_true, if_pos (mi_217 B.1), (show ((1 : Int32) = 0) = False from eq_false (by decide)), (show ((1 : Int32) = 1) = True from eq_true rfl), (show ((1 : Int32) = 2) = False from eq_false (by decide)), (show ((1 : Int32) = 3) = False from eq_false (by decide)), (show ((1 : Int32) = 4) = False from eq_false (by decide)), (show ((1 : Int32) = 5) = False from eq_false (by decide)), (show ((1 : Int32) = 6) = False from eq_false (by decide)), (show ((1 : Int32) < 10) = True from eq_true (by decide)), Option.bind_some, ↓reduceIte, m1], ma_q_t hq q3⟩
      by_cases n2 : y = 2
      · subst n2
        obtain ⟨g, e3, q3, B⟩ := e2 _ hq
        have c1 := c_15 (N := N) H V O hN
        have m1 := m_265 (N := N) B.1 B.2.1 O hN
        exact ⟨nI (sp_ra K 7), h, g, by simp only [f_143, if_pos (mi_0 H), mr_0_0 H, Option.bind_some, if_pos (mi_1 H), e1, (show ((2 : Int32) = 0) = False from eq_false (by decide)), (show ((2 : Int32) = 1) = False from eq_false (by decide)), (show ((2 : Int32) = 2) = True from eq_true rfl), (show ((2 : Int32) = 3) = False from eq_false (by decide)), (show ((2 : Int32) = 4) = False from eq_false (by decide)), (show ((2 : Int32) = 5) = False from eq_false (by decide)), (show ((2 : Int32) = 6) = False from eq_false (by decide)), (show ((2 : Int32) < 10) = True from eq_true (by decide)), Option.bind_some, ↓reduceIte, f_13, if_pos (wv_is H V.1), c1], ma_q_r h, by simp only [f_270, if_pos (mi_217 H), e3, Option.bind_some, i10, not_false_eq_true, if_true, if_pos (mi_217 B.1), (show ((2 : Int32) = 0) = False from eq_false (by decide)), (show ((2 : Int32) = 1) = False from eq_false (by decide)), (show ((2 : Int32) = 2) = True from eq_true rfl), (show ((2 : Int32) = 3) = False from eq_false (by decide)), (show ((2 : Int32) = 4) = False from eq_false (by decide)), (show ((2 : Int32) = 5) = False from eq_false (by decide)), (show ((2 : Int32) = 6) = False from eq_false (by decide)), (show ((2 : Int32) < 10) = True from eq_true (by decide)), Option.bind_some, ↓reduceIte, m1], ma_q_t hq q3⟩
      by_cases n3 : y = 3
      · subst n3
        obtain ⟨g, e3, q3, B⟩ := e2 _ hq
        have c1 := c_16 (N := N) H V O hN
        have m1 := m_266 (N := N) B.1 B.2.1 O hN
        exact ⟨nI (sp_tw K), h, g, by simp only [f_143, if_pos (mi_0 H), mr_0_0 H, Option.bind_some, if_pos (mi_1 H), e1, (show ((3 : Int32) = 0) = False from eq_false (by decide)), (show ((3 : Int32) = 1) = False from eq_false (by decide)), (show ((3 : Int32) = 2) = False from eq_false (by decide)), (show ((3 : Int32) = 3) = True from eq_true rfl), (show ((3 : Int32) = 4) = False from eq_false (by decide)), (show ((3 : Int32) = 5) = False from eq_false (by decide)), (show ((3 : Int32) = 6) = False from eq_false (by decide)), (show ((3 : Int32) < 10) = True from eq_true (by decide)), Option.bind_some, ↓reduceIte, f_13, if_pos (wv_is H V.1), c1], ma_q_r h, by simp only [f_270, if_pos (mi_217 H), e3, Option.bind_some, i10, not_false_eq_true, if_true, if_pos (mi_217 B.1), (show ((3 : Int32) = 0) = False from eq_false (by decide)), (show ((3 : Int32) = 1) = False from eq_false (by decide)), (show ((3 : Int32) = 2) = False from eq_false (by decide)), (show ((3 : Int32) = 3) = True from eq_true rfl), (show ((3 : Int32) = 4) = False from eq_false (by decide)), (show ((3 : Int32) = 5) = False from eq_false (by decide)), (show ((3 : Int32) = 6) = False from eq_false (by decide)), (show ((3 : Int32) < 10) = True from eq_true (by decide)), Option.bind_some, ↓reduceIte, m1], ma_q_t hq q3⟩
      by_cases n4 : y = 4
      · subst n4
        obtain ⟨g, e3, q3, B⟩ := e2 _ hq
        have c1 := c_17 (N := N) H V O hN
        have m1 := m_268 (N := N) B.1 B.2.1 O hN
        exact ⟨nI (sp_on (sp_gu K - 1)), h, g, by simp only [f_143, if_pos (mi_0 H), mr_0_0 H, Option.bind_some, if_pos (mi_1 H), e1, (show ((4 : Int32) = 0) = False from eq_false (by decide)), (show ((4 : Int32) = 1) = False from eq_false (by decide)), (show ((4 : Int32) = 2) = False from eq_false (by decide)), (show ((4 : Int32) = 3) = False from eq_false (by decide)), (show ((4 : Int32) = 4) = True from eq_true rfl), (show ((4 : Int32) = 5) = False from eq_false (by decide)), (show ((4 : Int32) = 6) = False from eq_false (by decide)), (show ((4 : Int32) < 10) = True from eq_true (by decide)), Option.bind_some, ↓reduceIte, f_13, if_pos (wv_is H V.1), c1, c_164 hgl], ma_q_r h, by simp only [f_270, if_pos (mi_217 H), e3, Option.bind_some, i10, not_false_eq_true, if_true, if_pos (mi_217 B.1), (show ((4 : Int32) = 0) = False from eq_false (by decide)), (show ((4 : Int32) = 1) = False from eq_false (by decide)), (show ((4 : Int32) = 2) = False from eq_false (by decide)), (show ((4 : Int32) = 3) = False from eq_false (by decide)), (show ((4 : Int32) = 4) = True from eq_true rfl), (show ((4 : Int32) = 5) = False from eq_false (by decide)), (show ((4 : Int32) = 6) = False from eq_false (by decide)), (show ((4 : Int32) < 10) = True from eq_true (by decide)), Option.bind_some, ↓reduceIte, m1, m_172 (show sp_gu K - 1 < 2 ^ 31 by omega) hN], ma_q_t hq q3⟩
      by_cases n5 : y = 5
      · subst n5
        obtain ⟨g, e3, q3, B⟩ := e2 _ hq
        have c1 := c_17 (N := N) H V O hN
        have m1 := m_268 (N := N) B.1 B.2.1 O hN
        exact ⟨nI (sp_gu K - 1), h, g, by simp only [f_143, if_pos (mi_0 H), mr_0_0 H, Option.bind_some, if_pos (mi_1 H), e1, (show ((5 : Int32) = 0) = False from eq_false (by decide)), (show ((5 : Int32) = 1) = False from eq_false (by decide)), (show ((5 : Int32) = 2) = False from eq_false (by decide)), (show ((5 : Int32) = 3) = False from eq_false (by decide)), (show ((5 : Int32) = 4) = False from eq_false (by decide)), (show ((5 : Int32) = 5) = True from eq_true rfl), (show ((5 : Int32) = 6) = False from eq_false (by decide)), (show ((5 : Int32) < 10) = True from eq_true (by decide)), Option.bind_some, ↓reduceIte, f_13, if_pos (wv_is H V.1), c1], ma_q_r h, by simp only [f_270, if_pos (mi_217 H), e3, Option.bind_some, i10, not_false_eq_true, if_true, if_pos (mi_217 B.1), (show ((5 : Int32) = 0) = False from eq_false (by decide)), (show ((5 : Int32) = 1) = False from eq_false (by decide)), (show ((5 : Int32) = 2) = False from eq_false (by decide)), (show ((5 : Int32) = 3) = False from eq_false (by decide)), (show ((5 : Int32) = 4) = False from eq_false (by decide)), (show ((5 : Int32) = 5) = True from eq_true rfl), (show ((5 : Int32) = 6) = False from eq_false (by decide)), (show ((5 : Int32) < 10) = True from eq_true (by decide)), Option.bind_some, ↓reduceIte, m1], ma_q_t hq q3⟩
      by_cases n6 : y = 6
      · subst n6
        obtain ⟨g, e3, q3, B⟩ := e2 _ hq
        have c1 := c_19 (N := N) H V O hN
        have m1 := m_269 (N := N) B.1 B.2.1 O hN
        exact ⟨nI (sp_lg K), h, g, by simp only [f_143, if_pos (mi_0 H), mr_0_0 H, Option.bind_some, if_pos (mi_1 H), e1, (show ((6 : Int32) = 0) = False from eq_false (by decide)), (show ((6 : Int32) = 1) = False from eq_false (by decide)), (show ((6 : Int32) = 2) = False from eq_false (by decide)), (show ((6 : Int32) = 3) = False from eq_false (by decide)), (show ((6 : Int32) = 4) = False from eq_false (by decide)), (show ((6 : Int32) = 5) = False from eq_false (by decide)), (show ((6 : Int32) = 6) = True from eq_true rfl), (show ((6 : Int32) < 10) = True from eq_true (by decide)), Option.bind_some, ↓reduceIte, f_13, if_pos (wv_is H V.1), c1], ma_q_r h, by simp only [f_270, if_pos (mi_217 H), e3, Option.bind_some, i10, not_false_eq_true, if_true, if_pos (mi_217 B.1), (show ((6 : Int32) = 0) = False from eq_false (by decide)), (show ((6 : Int32) = 1) = False from eq_false (by decide)), (show ((6 : Int32) = 2) = False from eq_false (by decide)), (show ((6 : Int32) = 3) = False from eq_false (by decide)), (show ((6 : Int32) = 4) = False from eq_false (by decide)), (show ((6 : Int32) = 5) = False from eq_false (by decide)), (show ((6 : Int32) = 6) = True from eq_true rfl), (show ((6 : Int32) < 10) = True from eq_true (by decide)), Option.bind_some, ↓reduceIte, m1], ma_q_t hq q3⟩
      obtain ⟨g, e3, q3, B⟩ := e2 _ hq
      exact ⟨-2, h, g, by simp only [f_143, if_pos (mi_0 H), mr_0_0 H, Option.bind_some, if_pos (mi_1 H), e1, y0, if_false, if_pos y10, if_pos (wv_is H V.1), f_13, n1, n2, n3, n4, n5, n6], ma_q_r h, by simp only [f_270, if_pos (mi_217 H), e3, Option.bind_some, i10, not_false_eq_true, if_true, if_pos y10, y0, if_false, n1, n2, n3, n4, n5, n6], ma_q_t hq q3⟩
    · obtain ⟨g1, a1, a2, a3⟩ := c_50 (N := N) H V O hc hN
      have H1 := ma_H_fr H a2
      have qg := ma_dlq a2
      obtain ⟨g, e3, q3, B⟩ := e2 _ (ma_q_pI qg (by decide : ¬ ma_ps 217) 0 0)
      cases qm : ma_at (y - 10) (K 0 0)
      · exact ⟨-2, g1, g, by simp only [f_143, if_pos (mi_0 H), mr_0_0 H, Option.bind_some, if_pos (mi_1 H), e1, y0, if_false, if_neg y10, f_143_26, mr_0_6 H, if_pos (mi_194 H), a1, not_false_eq_true, if_true, if_pos (mi_0 H1), mr_0_6 H1, if_pos (mi_194 H1), c_54n H1 a3 qm], qg, by simp only [f_270, if_pos (mi_217 H1), e3, Option.bind_some, i10, not_false_eq_true, if_true, if_neg y10, if_pos (mi_217 B.1), m_200 B.1 B.2.1 O, qm, Bool.false_eq_true, if_false], ma_q_t (ma_q_pI (ma_q_r g1) (by decide) 0 0) q3⟩
      · obtain ⟨m, hm, em⟩ := ma_at_ex (by omega) qm
        rw [em] at qm
        exact ⟨nI (sp_sc K m), g1, g, by simp only [f_143, if_pos (mi_0 H), mr_0_0 H, Option.bind_some, if_pos (mi_1 H), e1, y0, if_false, if_neg y10, f_143_26, mr_0_6 H, if_pos (mi_194 H), a1, not_false_eq_true, if_true, if_pos (mi_0 H1), mr_0_6 H1, if_pos (mi_194 H1), em, c_54 H1 O a3 hm hN], qg, by simp only [f_270, if_pos (mi_217 H1), e3, Option.bind_some, i10, not_false_eq_true, if_true, if_neg y10, if_pos (mi_217 B.1), em, m_200 B.1 B.2.1 O, qm, if_false, m_263 B.1 B.2.1 O hm hN], ma_q_t (ma_q_pI (ma_q_r g1) (by decide) 0 0) q3⟩
end
