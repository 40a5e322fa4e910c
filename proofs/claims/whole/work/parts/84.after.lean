/-! after: the model's walk, and the call -/
/-- the model's counts -/
def af_A (h : pb_HP) (D : Nat → ma_dd) (S : ma_S) (k : Nat) : Prop := pb_I h 217 47 = mI (af_bg D S k) ∧ pb_I h 217 48 = nI (af_ch D S k) ∧ pb_I h 217 49 = nI (af_gn D S 2 k) ∧ pb_I h 217 50 = nI (af_gn D S 5 k) ∧ (∀ m, m < 6 → pb_I h 237 m = nI (af_re D S m k)) ∧ ∀ c, c < 6 → pb_I h 238 c = nI (af_tu D S c k)
section
variable {h : pb_HP} {N T y : Nat} {Y : ma_Y} {D : Nat → ma_dd} {S : ma_S} {f : Nat → Nat}
theorem af_A_e {g : pb_HP} {k : Nat} (A : af_A h D S k) (c : ∀ k, 47 ≤ k → k ≤ 50 → pb_I g 217 k = pb_I h 217 k) (o1 : pb_I g 237 = pb_I h 237) (o2 : pb_I g 238 = pb_I h 238) : af_A g D S k := by
  unfold af_A
  rw [c 47 (by decide) (by decide), c 48 (by decide) (by decide), c 49 (by decide) (by decide), c 50 (by decide) (by decide), o1, o2]
  exact A
theorem ma_D_k {g : pb_HP} (Dd : ma_D h S) (c : ∀ k, 23 ≤ k → k ≤ 29 → pb_I g 217 k = pb_I h 217 k) (o : ∀ o, o = 223 ∨ (228 ≤ o ∧ o ≤ 232) → pb_I g o = pb_I h o) : ma_D g S := by
  unfold ma_D ma_M ma_of ma_T at *
  rw [c 23 (by decide) (by decide), c 24 (by decide) (by decide), c 25 (by decide) (by decide), c 26 (by decide) (by decide), c 27 (by decide) (by decide), c 28 (by decide) (by decide), c 29 (by decide) (by decide), o 223 (by omega), o 228 (by omega), o 229 (by omega), o 230 (by omega), o 231 (by omega), o 232 (by omega)]
  exact Dd
theorem ma_yv_k {g : pb_HP} (v : ma_yv h y Y) (c : pb_I g 217 36 = pb_I h 217 36) (o : pb_I g 224 = pb_I h 224) : ma_yv g y Y := by
  unfold ma_yv ma_Ly at *
  rw [c, o]
  exact v
theorem m_295 {K : ma_K} (H : ma_H h) (M : ma_M h K) (O : ma_OK K) (hN : 3000 < N) : f_295 N h 217 = some (nI (af_s K 2)) := by
  have o1 := O.1
  have hl : pb_wl (f_295_4s N h 217) N (0, 0) = some (nI (af_s K 2)) := by
    rw [← af_s_n (K := K) (i := 2) (n := K 0 0) O.2.2.2.1 o1]
    refine ma_lq (fun j a => (nI a, nI j)) (fun m a => a + sp_on (K 2 m)) (K 0 0) (by omega) rfl (fun j a hj => ?_) ?_
    · have e1 : ¬ nI (K 0 0) ≤ nI j := nI_ge hj (by omega)
      have b := (O.2.2.1 j).2.1
      simp only [f_295_4s, if_pos (mi_217 H), M.1, if_neg e1, mr_217_30 H, Option.bind_some, if_pos (mx_228 H (show j < 6 by omega)), nI_clamp (show j < 2 ^ 31 by omega), M.2.2.1 j (by omega), m_172 (show K 2 j < 2 ^ 31 by omega) hN, nI_add, nI_1]
    · have e1 : nI (K 0 0) ≤ nI (K 0 0) := nI_le (Nat.le_refl _) (by omega)
      simp only [f_295_4s, if_pos (mi_217 H), M.1, if_pos e1]
  unfold f_295
  rw [hl]
  rfl
theorem m_296 {K : ma_K} (H : ma_H h) (M : ma_M h K) (O : ma_OK K) (hN : 3000 < N) : f_296 N h 217 = some (nI (af_s K 5)) := by
  have o1 := O.2.1
  have hl : pb_wl (f_296_4s N h 217) N (0, 0) = some (nI (af_s K 5)) := by
    rw [← af_s_n (K := K) (i := 5) (n := K 0 1) O.2.2.2.2 o1]
    refine ma_lq (fun j a => (nI a, nI j)) (fun m a => a + sp_on (K 5 m)) (K 0 1) (by omega) rfl (fun j a hj => ?_) ?_
    · have e1 : ¬ nI (K 0 1) ≤ nI j := nI_ge hj (by omega)
      have b := (O.2.2.1 j).2.2.2.2.1
      simp only [f_296_4s, if_pos (mi_217 H), M.2.1, if_neg e1, mr_217_33 H, Option.bind_some, if_pos (mx_231 H (show j < 6 by omega)), nI_clamp (show j < 2 ^ 31 by omega), M.2.2.2.2.2.1 j (by omega), m_172 (show K 5 j < 2 ^ 31 by omega) hN, nI_add, nI_1]
    · have e1 : nI (K 0 1) ≤ nI (K 0 1) := nI_le (Nat.le_refl _) (by omega)
      simp only [f_296_4s, if_pos (mi_217 H), M.2.1, if_pos e1]
  unfold f_296
  rw [hl]
  rfl
theorem m_298 {o : Nat} (H : ma_H h) (x : ∀ j, j < 6 → pb_ar h o 12 (nI j)) (e : ∀ j, j < 6 → pb_I h o j = nI (f j)) (hf : ∀ j, j < 6 → f j ≤ 40) (hN : 3000 < N) : f_298 N h o = some (mI (af_mo f).1) := by
  have hl : pb_wl (f_298_6s N h o) N (-1, 0, 0) = some (mI (af_mo f).1) := by
    refine ma_lp (fun j a => (mI a.1, nI a.2, nI j)) (fun j a => if a.2 < f j then (j + 1, f j) else a) (fun j a => a.2 ≤ 40 ∧ a.1 ≤ 6) 6 (a0 := (0, 0)) (by omega) ⟨by decide, by decide⟩ rfl (fun j a hj ha => ⟨?_, ?_⟩) ?_
    · have := hf j hj
      split
      · exact ⟨this, by dsimp only; omega⟩
      · exact ha
    · have e1 : ¬ (6 : Int32) ≤ nI j := nI_ge (b := 6) hj (by decide)
      have := hf j hj
      have g : f_170 (nI a.2) (nI (f j)) = some (nI (if a.2 < f j then f j else a.2)) := by
        unfold f_170
        simp only [nI_leI (show a.2 < 2 ^ 31 by omega) (show f j < 2 ^ 31 by omega)]
        by_cases c : a.2 < f j
        · rw [if_pos (by omega), if_pos c]
        · rw [if_neg c]
          by_cases d : a.2 ≤ f j
          · rw [if_pos d, show f j = a.2 by omega]
          · rw [if_neg d]
      simp only [f_298_6s, if_neg e1, if_pos (x j hj), nI_clamp (show j < 2 ^ 31 by omega), e j hj, nI_leI (show f j < 2 ^ 31 by omega) (show a.2 < 2 ^ 31 by omega), f_298_24, g, Option.bind_some, nI_1]
      by_cases c : a.2 < f j
      · rw [if_neg (show ¬ f j ≤ a.2 by omega), if_pos c, if_pos c, mI_s]
      · rw [if_pos (show f j ≤ a.2 by omega), if_neg c, if_neg c]
    · intro _
      have e1 : (6 : Int32) ≤ nI 6 := by decide
      simp only [f_298_6s, if_pos e1]
      rfl
  unfold f_298
  rw [hl]
  rfl
theorem m_297a (H : ma_H h) (t : ma_to h f) (a b c d : Int32) (hN : 3000 < N) : ∃ g, pb_wl (f_297_23s N 217 a b c d) N (0, h) = some g ∧ ma_fr [239] [] h g ∧ ∀ j, j < 6 → pb_I g 239 j = nI (f j) := by
  refine ma_lh (fun j s => s.1 = nI j ∧ ma_fr [239] [] h s.2 ∧ ∀ c, c < j → pb_I s.2 239 c = nI (f c)) _ 6 0 N _ (by omega) (by omega) ⟨rfl, ma_fr_r _ _ _, fun c hc => absurd hc (Nat.not_lt_zero c)⟩ ?_ ?_
  · rintro j ⟨y, g⟩ _ hj ⟨hy, fg, p⟩
    dsimp only at hy fg p
    subst hy
    left
    have Hg := ma_H_fr H fg
    have e1 : ¬ (6 : Int32) ≤ nI j := nI_ge (b := 6) hj (by decide)
    refine ⟨(nI (j + 1), pb_pI g 239 j (nI (f j))), ?_, rfl, ma_fr_pI fg (.inl (by decide)) _, fun c hc => ?_⟩
    · simp only [f_297_23s, if_neg e1, if_pos (mi_217 Hg), mr_217_46 Hg, mr_217_35 Hg, Option.bind_some, if_pos (mx_233 Hg hj), if_pos (mx_239 Hg hj), nI_clamp (show j < 2 ^ 31 by omega), ma_fr_o fg (show 233 ∉ [239] by decide) (show 233 ∉ ([] : List (Nat × Nat)).map Prod.fst by decide), t j hj, nI_1]
    · show pb_I (pb_pI g 239 j _) 239 c = _
      rw [ma_Ik, if_pos rfl]
      by_cases q : c = j
      · rw [if_pos q, q]
      · rw [if_neg q]; exact p c (by omega)
  · rintro ⟨y, g⟩ ⟨hy, fg, p⟩
    dsimp only at hy fg p
    subst hy
    refine ⟨g, ?_, fg, p⟩
    have e1 : (6 : Int32) ≤ nI 6 := by decide
    simp only [f_297_23s, if_pos e1]
theorem m_297b {u w : Nat → Nat} (H : ma_H h) (t : ma_to h f) (hf : ∀ c, f c ≤ 6) (hu : ∀ c, u c ≤ 6) (e9 : ∀ c, c < 6 → pb_I h 239 c = nI (u c)) (e8 : ∀ c, c < 6 → pb_I h 238 c = nI (w c)) (a b c d : Int32) (hN : 3000 < N) : ∃ g, pb_wl (f_297_67s N 217 a b c d) N (0, h) = some g ∧ ma_fr [238] [] h g ∧ ∀ c, c < 6 → pb_I g 238 c = nI (if f c = u c then w c else w c + 1) := by
  have lp : ∃ g, pb_wl (f_297_67s N 217 a b c d) N (0, h) = some g ∧ (ma_fr [238] [] h g ∧ ∀ c, c < 6 → pb_I g 238 c = nI (if c < 6 ∧ ¬ f c = u c then w c + 1 else w c)) := by
    refine ma_lh (fun j s => s.1 = nI j ∧ ma_fr [238] [] h s.2 ∧ ∀ c, c < 6 → pb_I s.2 238 c = nI (if c < j ∧ ¬ f c = u c then w c + 1 else w c)) _ 6 0 N _ (by omega) (by omega) ⟨rfl, ma_fr_r _ _ _, fun c hc => by rw [if_neg (fun q => absurd q.1 (Nat.not_lt_zero c))]; exact e8 c hc⟩ ?_ ?_
    · rintro j ⟨y, g⟩ _ hj ⟨hy, fg, p⟩
      dsimp only at hy fg p
      subst hy
      left
      have Hg := ma_H_fr H fg
      have e1 : ¬ (6 : Int32) ≤ nI j := nI_ge (b := 6) hj (by decide)
      have pj : pb_I g 238 j = nI (w j) := by have := p j hj; rw [if_neg (fun z => absurd z.1 (Nat.lt_irrefl j))] at this; exact this
      have k3 : pb_I g 233 j = nI (f j) := by rw [ma_fr_o fg (by decide) (by decide)]; exact t j hj
      have k9 : pb_I g 239 j = nI (u j) := by rw [ma_fr_o fg (by decide) (by decide)]; exact e9 j hj
      have f6 := hf j
      have u6 := hu j
      refine ⟨(nI (j + 1), pb_pI g 238 j (nI (if f j = u j then w j else w j + 1))), ?_, rfl, ma_fr_pI fg (.inl (by decide)) _, fun c hc => ?_⟩
      · simp only [f_297_67s, if_neg e1, if_pos (mi_217 Hg), mr_217_45 Hg, mr_217_35 Hg, mr_217_46 Hg, Option.bind_some, if_pos (mx_238 Hg hj), if_pos (mx_233 Hg hj), if_pos (mx_239 Hg hj), nI_clamp (show j < 2 ^ 31 by omega), k3, k9, pj, f_297_104, nI_eq (show f j < 2 ^ 31 by omega) (show u j < 2 ^ 31 by omega), lH0, nI_1]
        by_cases q : f j = u j
        · rw [if_pos q, if_pos q]
        · rw [if_neg q, if_neg q]
      · show pb_I (pb_pI g 238 j _) 238 c = _
        rw [ma_Ik, if_pos rfl]
        by_cases q : c = j
        · rw [if_pos q, q]
          by_cases z : f j = u j
          · rw [if_pos z, if_neg (fun y => y.2 z)]
          · rw [if_neg z, if_pos ⟨by omega, z⟩]
        · rw [if_neg q, p c hc]
          by_cases z : c < j ∧ ¬ f c = u c
          · rw [if_pos z, if_pos ⟨by omega, z.2⟩]
          · rw [if_neg z, if_neg (fun y => z ⟨by omega, y.2⟩)]
    · rintro ⟨y, g⟩ ⟨hy, fg, p⟩
      dsimp only at hy fg p
      subst hy
      refine ⟨g, ?_, fg, p⟩
      have e1 : (6 : Int32) ≤ nI 6 := by decide
      simp only [f_297_67s, if_pos e1]
  obtain ⟨g, a1, a2, a3⟩ := lp
  refine ⟨g, a1, a2, fun c hc => ?_⟩
  rw [a3 c hc]
  by_cases z : f c = u c
  · rw [if_pos z, if_neg (fun y => y.2 z)]
  · rw [if_neg z, if_pos ⟨hc, z⟩]
abbrev af_M : List Nat := [228, 229, 230, 231, 232, 233, 237, 238, 239]
abbrev af_F : List (Nat × Nat) := [(217, 26), (217, 27), (217, 28), (217, 29), (217, 47), (217, 48), (217, 49), (217, 50)]
theorem af_mq {g : pb_HP} (f : ma_fr af_M af_F h g) : ma_q h g := ⟨f.1, f.2.1, fun o ho => funext fun k => f.2.2 o k (fun z => by revert z; simp; omega) (fun z => by revert z; simp; omega)⟩
/-- the last steps of a look -/
theorem m_297c {k : Nat} (hd : ∀ j, j < T → ma_dr (D j) (Y.2 j)) (eT : T = Y.1) (hY : Y.1 ≤ 40) (O : ma_SO S) (hk : k < T) (ac : sp_act (af_q D S k) (D k) = some (af_q D S (k + 1))) (H : ma_H h) (Dd : ma_D h (af_q D S (k + 1))) (v : ma_yv h y Y) (e7 : pb_I h 217 47 = mI (af_bg D S k)) (e8 : pb_I h 217 48 = nI (af_ch D S k)) (e9 : pb_I h 217 49 = nI (af_gn D S 2 k)) (e0 : pb_I h 217 50 = nI (af_gn D S 5 k)) (er : ∀ m, m < 6 → pb_I h 237 m = nI (af_re D S m k)) (et : ∀ c, c < 6 → pb_I h 238 c = nI (af_tu D S c (k + 1))) (hN : 3000 < N) : ∃ g, f_297_138 N h 217 (nI k) (nI (af_G D S k)) (nI (af_s (af_q D S k).1 2)) (nI (af_s (af_q D S k).1 5)) (mI (af_bg D S (k + 1))) 217 = some (1, g) ∧ ma_fr af_M af_F h g ∧ ma_D g (af_q D S (k + 1)) ∧ ma_yv g y Y ∧ af_A g D S (k + 1) := by
  have SO := af_SO hd O (k + 1) (by omega)
  have SO0 := af_SO hd O k (by omega)
  have g1 : af_G D S (k + 1) ≤ 6 := SO.2.2.1
  have g0 : af_G D S k ≤ 6 := SO0.2.2.1
  have e27 : pb_I h 217 27 = nI (af_G D S (k + 1)) := Dd.2.2.1
  have b2 := af_s_b (af_q D S (k + 1)).1 2
  have b5 := af_s_b (af_q D S (k + 1)).1 5
  have c2 := af_s_b (af_q D S k).1 2
  have c5 := af_s_b (af_q D S k).1 5
  obtain ⟨h1, f1⟩ : ∃ g, g = pb_pI h 217 47 (mI (af_bg D S (k + 1))) := ⟨_, rfl⟩
  obtain ⟨h2, f2⟩ : ∃ g, g = pb_pI h1 217 48 (nI (af_ch D S (k + 1))) := ⟨_, rfl⟩
  obtain ⟨h3, f3⟩ : ∃ g, g = pb_pI h2 217 49 (nI (af_gn D S 2 (k + 1))) := ⟨_, rfl⟩
  obtain ⟨h4, f4⟩ : ∃ g, g = pb_pI h3 217 50 (nI (af_gn D S 5 (k + 1))) := ⟨_, rfl⟩
  have H1 : ma_H h1 := by rw [f1]; exact H
  have H2 : ma_H h2 := by rw [f2]; exact H1
  have H3 : ma_H h3 := by rw [f3]; exact H2
  have H4 : ma_H h4 := by rw [f4]; exact H3
  have fr4 : ma_fr af_M af_F h h4 := by rw [f4, f3, f2, f1]; exact ma_fr_pI (ma_fr_pI (ma_fr_pI (ma_fr_pI (ma_fr_r _ _ _) (.inr (by decide)) _) (.inr (by decide)) _) (.inr (by decide)) _) (.inr (by decide)) _
  have k1 : ∀ j, j ≠ 47 → pb_I h1 217 j = pb_I h 217 j := fun j q => by rw [f1, ma_Ik, if_pos rfl, if_neg q]
  have k2 : ∀ j, j ≠ 48 → pb_I h2 217 j = pb_I h1 217 j := fun j q => by rw [f2, ma_Ik, if_pos rfl, if_neg q]
  have k3 : ∀ j, j ≠ 49 → pb_I h3 217 j = pb_I h2 217 j := fun j q => by rw [f3, ma_Ik, if_pos rfl, if_neg q]
  have k4 : ∀ j, j ≠ 50 → pb_I h4 217 j = pb_I h3 217 j := fun j q => by rw [f4, ma_Ik, if_pos rfl, if_neg q]
  have o4 : ∀ o, o ≠ 217 → pb_I h4 o = pb_I h o := fun o q => by rw [f4, ma_I_pI, if_neg q, f3, ma_I_pI, if_neg q, f2, ma_I_pI, if_neg q, f1, ma_I_pI, if_neg q]
  have M1 : ma_M h1 (af_q D S (k + 1)).1 := by rw [f1]; exact ma_M_o Dd.1 (.inl ⟨rfl, by decide, by decide⟩) _
  have M2 : ma_M h2 (af_q D S (k + 1)).1 := by rw [f2]; exact ma_M_o M1 (.inl ⟨rfl, by decide, by decide⟩) _
  have M3 : ma_M h3 (af_q D S (k + 1)).1 := by rw [f3]; exact ma_M_o M2 (.inl ⟨rfl, by decide, by decide⟩) _
  have D4 : ma_D h4 (af_q D S (k + 1)) := ma_D_k Dd (fun j p q => by rw [k4 j (by omega), k3 j (by omega), k2 j (by omega), k1 j (by omega)]) (fun o q => o4 o (by omega))
  have v4 : ma_yv h4 y Y := ma_yv_k v (by rw [k4 36 (by decide), k3 36 (by decide), k2 36 (by decide), k1 36 (by decide)]) (o4 224 (by decide))
  have z5 := m_295 (N := N) H2 M2 SO.1 hN
  have z6 := m_296 (N := N) H3 M3 SO.1 hN
  have of : f_213 h4 217 (nI k) 0 = some (nI (D k).1) := by
    have := m_ofy (i := 0) H4 v4.1 v4.2.1 v4.2.2 hY (show k < Y.1 by omega) (by decide)
    rw [(hd k hk).1] at this
    exact this
  have d6 := (hd k hk).2.1
  -- f_297_204
  have st4 : ∀ a b : Int32, a + b = nI (af_gn D S 5 (k + 1)) → ∃ g, f_297_204 N h3 217 (nI k) (nI (af_G D S k)) b a 217 = some (1, g) ∧ ma_fr af_M af_F h g ∧ ma_D g (af_q D S (k + 1)) ∧ ma_yv g y Y ∧ af_A g D S (k + 1) := fun a b ab => by
    have c47 : pb_I h4 217 47 = mI (af_bg D S (k + 1)) := by rw [k4 47 (by decide), k3 47 (by decide), k2 47 (by decide), f1, ma_Ik, if_pos rfl, if_pos rfl]
    have c48 : pb_I h4 217 48 = nI (af_ch D S (k + 1)) := by rw [k4 48 (by decide), k3 48 (by decide), f2, ma_Ik, if_pos rfl, if_pos rfl]
    have c49 : pb_I h4 217 49 = nI (af_gn D S 2 (k + 1)) := by rw [k4 49 (by decide), f3, ma_Ik, if_pos rfl, if_pos rfl]
    have c50 : pb_I h4 217 50 = nI (af_gn D S 5 (k + 1)) := by rw [f4, ma_Ik, if_pos rfl, if_pos rfl]
    unfold f_297_204
    rw [if_pos (mi_217 H3), if_pos (mi_217 H3), ab, ← f4, of, Option.bind_some]
    have same : (∀ m, m < 6 → af_re D S m (k + 1) = af_re D S m k) → ∃ g, some ((1 : Int32), h4) = some (1, g) ∧ ma_fr af_M af_F h g ∧ ma_D g (af_q D S (k + 1)) ∧ ma_yv g y Y ∧ af_A g D S (k + 1) := fun q => ⟨h4, rfl, fr4, D4, v4, c47, c48, c49, c50, fun m hm => by rw [o4 237 (by decide), er m hm, q m hm], fun c hc => by rw [o4 238 (by decide)]; exact et c hc⟩
    by_cases q : (D k).1 = 6
    · rw [if_neg (not_not_intro (show nI (D k).1 = 6 by rw [q]; rfl))]
      by_cases r : 6 ≤ af_G D S k
      · rw [if_pos ((lA6 (show af_G D S k < 2 ^ 31 by omega)).mpr r)]
        exact same (fun m hm => by rw [af_re_s, if_neg (by omega)])
      · have x7 : pb_ar h3 237 12 (nI (af_G D S k)) := mx_237 H3 (by omega)
        have kk : pb_I h4 237 (af_G D S k) = nI (af_re D S (af_G D S k) k) := by rw [o4 237 (by decide)]; exact er _ (by omega)
        rw [if_neg (fun z => r ((lA6 (show af_G D S k < 2 ^ 31 by omega)).mp z)), mr_217_44 H3, Option.bind_some, if_pos x7, nI_clamp (show af_G D S k < 2 ^ 31 by omega), kk, nI_1]
        have w : ∀ o, o ≠ 237 → pb_I (pb_pI h4 237 (af_G D S k) (nI (af_re D S (af_G D S k) k + 1))) o = pb_I h4 o := fun o q => by rw [ma_I_pI, if_neg q]
        refine ⟨_, rfl, ma_fr_pI fr4 (.inl (by decide)) _, ma_D_k D4 (fun j p q => by rw [w 217 (by decide)]) (fun o q => w o (by omega)), ma_yv_k v4 (by rw [w 217 (by decide)]) (w 224 (by decide)), by rw [w 217 (by decide)]; exact c47, by rw [w 217 (by decide)]; exact c48, by rw [w 217 (by decide)]; exact c49, by rw [w 217 (by decide)]; exact c50, fun m hm => ?_, fun c hc => by rw [w 238 (by decide), o4 238 (by decide)]; exact et c hc⟩
        rw [ma_Ik, if_pos rfl, af_re_s]
        by_cases z : m = af_G D S k
        · rw [if_pos z, if_pos ⟨q, z.symm⟩, z]
        · rw [if_neg z, if_neg (fun x => z x.2.symm), o4 237 (by decide)]; exact er m hm
    · rw [if_pos (fun z => q ((lE6 (show (D k).1 < 2 ^ 31 by omega)).mp z))]
      exact same (fun m hm => by rw [af_re_s, if_neg (fun z => q z.1)])
  -- f_297_181
  have st3 : ∀ a b : Int32, a + b = nI (af_gn D S 2 (k + 1)) → ∃ g, f_297_181 N h2 217 (nI k) (nI (af_G D S k)) (nI (af_s (af_q D S k).1 5)) b a 217 = some (1, g) ∧ ma_fr af_M af_F h g ∧ ma_D g (af_q D S (k + 1)) ∧ ma_yv g y Y ∧ af_A g D S (k + 1) := fun a b ab => by
    have c50 : pb_I h3 217 50 = nI (af_gn D S 5 k) := by rw [k3 50 (by decide), k2 50 (by decide), k1 50 (by decide)]; exact e0
    unfold f_297_181
    rw [if_pos (mi_217 H2), if_pos (mi_217 H2), ab, ← f3, z6, Option.bind_some, c50]
    by_cases q : af_s (af_q D S (k + 1)).1 5 ≤ af_s (af_q D S k).1 5
    · rw [if_pos (nI_le q (by omega))]
      exact st4 _ _ (by rw [lH0, af_gn_s, if_neg (by omega)])
    · rw [if_neg (nI_ge (show af_s (af_q D S k).1 5 < af_s (af_q D S (k + 1)).1 5 by omega) (by omega))]
      exact st4 _ _ (by rw [nI_1, af_gn_s, if_pos (by omega)])
  -- f_297_159
  have st2 : ∀ a b : Int32, a + b = nI (af_ch D S (k + 1)) → ∃ g, f_297_159 N h1 217 (nI k) (nI (af_G D S k)) (nI (af_s (af_q D S k).1 2)) (nI (af_s (af_q D S k).1 5)) b a 217 = some (1, g) ∧ ma_fr af_M af_F h g ∧ ma_D g (af_q D S (k + 1)) ∧ ma_yv g y Y ∧ af_A g D S (k + 1) := fun a b ab => by
    have c49 : pb_I h2 217 49 = nI (af_gn D S 2 k) := by rw [k2 49 (by decide), k1 49 (by decide)]; exact e9
    unfold f_297_159
    rw [if_pos (mi_217 H1), if_pos (mi_217 H1), ab, ← f2, z5, Option.bind_some, c49]
    by_cases q : af_s (af_q D S (k + 1)).1 2 ≤ af_s (af_q D S k).1 2
    · rw [if_pos (nI_le q (by omega))]
      exact st3 _ _ (by rw [lH0, af_gn_s, if_neg (by omega)])
    · rw [if_neg (nI_ge (show af_s (af_q D S k).1 2 < af_s (af_q D S (k + 1)).1 2 by omega) (by omega))]
      exact st3 _ _ (by rw [nI_1, af_gn_s, if_pos (by omega)])
  have c27 : pb_I h1 217 27 = nI (af_G D S (k + 1)) := by rw [k1 27 (by decide)]; exact e27
  have c48 : pb_I h1 217 48 = nI (af_ch D S k) := by rw [k1 48 (by decide)]; exact e8
  unfold f_297_138
  rw [if_pos (mi_217 H), if_pos (mi_217 H), ← f1, c27, c48]
  by_cases q : af_G D S (k + 1) = af_G D S k
  · rw [if_pos (by rw [q])]
    exact st2 _ _ (by rw [lH0, af_ch_s, if_pos q])
  · rw [if_neg (fun z => q ((nI_eq (show af_G D S (k + 1) < 2 ^ 31 by omega) (show af_G D S k < 2 ^ 31 by omega)).mp z))]
    exact st2 _ _ (by rw [nI_1, af_ch_s, if_neg q])
theorem m_297 {k : Nat} (hd : ∀ j, j < T → ma_dr (D j) (Y.2 j)) (eT : T = Y.1) (hY : Y.1 ≤ 40) (O : ma_SO S) (hk : k < T) (H : ma_H h) (Dd : ma_D h (af_q D S k)) (v : ma_yv h y Y) (A : af_A h D S k) (hN : 3000 < N) : (sp_act (af_q D S k) (D k) = none → ∃ g, f_297 N h 217 (nI k) = some (0, g) ∧ ma_fr af_M af_F h g ∧ af_A g D S k) ∧ (sp_act (af_q D S k) (D k) = some (af_q D S (k + 1)) → ∃ g, f_297 N h 217 (nI k) = some (1, g) ∧ ma_fr af_M af_F h g ∧ ma_D g (af_q D S (k + 1)) ∧ ma_yv g y Y ∧ af_A g D S (k + 1)) := by
  have SO := af_SO hd O k (by omega)
  have z5 := m_295 (N := N) H Dd.1 SO.1 hN
  have z6 := m_296 (N := N) H Dd.1 SO.1 hN
  have e27 : pb_I h 217 27 = nI (af_G D S k) := Dd.2.2.1
  obtain ⟨h5, a1, a2, a3⟩ := m_208 (N := N) H Dd.1 SO.1 hN
  have H5 := ma_H_fr H a2
  obtain ⟨h6, b1, b2, b3⟩ := m_297a (N := N) H5 a3 (nI k) (nI (af_G D S k)) (nI (af_s (af_q D S k).1 2)) (nI (af_s (af_q D S k).1 5)) hN
  have H6 := ma_H_fr H5 b2
  have w6 : ∀ o, o ≠ 233 → o ≠ 239 → pb_I h6 o = pb_I h o := fun o p q => by rw [ma_fr_o b2 (by simp; omega) (by simp), ma_fr_o a2 (by simp; omega) (by simp)]
  have f6 : ma_fr af_M af_F h h6 := ma_fr_t (ma_fr_w a2 (by decide) (by decide)) (ma_fr_w b2 (by decide) (by decide))
  have D6 : ma_D h6 (af_q D S k) := ma_D_k Dd (fun j p q => by rw [w6 217 (by decide) (by decide)]) (fun o q => w6 o (by omega) (by omega))
  have v6 : ma_yv h6 y Y := ma_yv_k v (by rw [w6 217 (by decide) (by decide)]) (w6 224 (by decide) (by decide))
  have A6 : af_A h6 D S k := af_A_e A (fun j _ _ => by rw [w6 217 (by decide) (by decide)]) (w6 237 (by decide) (by decide)) (w6 238 (by decide) (by decide))
  have m := m_221 (N := N) H6 D6 SO v6 hY (show k < Y.1 by omega) (hd k hk) hN
  refine ⟨fun q => ⟨h6, ?_, f6, A6⟩, fun q => ?_⟩
  · unfold f_297
    rw [if_pos (mi_217 H), z5, Option.bind_some, z6, Option.bind_some, a1, Option.bind_some, e27, b1, Option.bind_some, if_pos (mi_217 H6), m.1 q, Option.bind_some]
    dsimp only
    rw [if_neg (not_not_intro rfl)]
  · obtain ⟨h7, c1, c2, c3⟩ := m.2 _ q
    have H7 := ma_H_fr H6 c2
    have SO1 := af_SO hd O (k + 1) (by omega)
    obtain ⟨h8, d1, d2, d3⟩ := m_208 (N := N) H7 c3.1 SO1.1 hN
    have H8 := ma_H_fr H7 d2
    have w8 : ∀ o, o = 237 ∨ o = 238 ∨ o = 239 ∨ o = 224 → pb_I h8 o = pb_I h6 o := fun o p => by rw [ma_fr_o d2 (by simp; omega) (by simp), ma_fr_o c2 (by simp; omega) (by simp; omega)]
    obtain ⟨h9, e1, e2, e3⟩ := m_297b (N := N) (u := sp_to (af_q D S k).1) (w := fun c => af_tu D S c k) H8 d3 (fun c => sp_to_le SO1.1 c) (fun c => sp_to_le SO.1 c) (fun c hc => by rw [w8 239 (by omega)]; exact b3 c hc) (fun c hc => by rw [w8 238 (by omega)]; exact A6.2.2.2.2.2 c hc) (nI k) (nI (af_G D S k)) (nI (af_s (af_q D S k).1 2)) (nI (af_s (af_q D S k).1 5)) hN
    have H9 := ma_H_fr H8 e2
    have k9 : ∀ j, pb_I h9 217 j = pb_I h7 217 j := fun j => by rw [ma_fr_o e2 (by decide) (by decide), ma_fr_o d2 (by decide) (by decide)]
    have k7 : ∀ j, 47 ≤ j → pb_I h7 217 j = pb_I h6 217 j := fun j q => c2.2.2 217 j (by decide) (by simp; omega)
    have f9 : ma_fr af_M af_F h h9 := ma_fr_t f6 (ma_fr_t (ma_fr_w c2 (by decide) (by decide)) (ma_fr_t (ma_fr_w d2 (by decide) (by decide)) (ma_fr_w e2 (by decide) (by decide))))
    have D9 : ma_D h9 (af_q D S (k + 1)) := ma_D_k c3 (fun j _ _ => k9 j) (fun o q => by rw [ma_fr_o e2 (by simp; omega) (by simp), ma_fr_o d2 (by simp; omega) (by simp)])
    have v9 : ma_yv h9 y Y := ma_yv_k v6 (by rw [k9, c2.2.2 217 36 (by decide) (by decide)]) (by rw [ma_fr_o e2 (by decide) (by decide), w8 224 (by omega)])
    have g1 : af_G D S (k + 1) ≤ 6 := SO1.2.2.1
    have n7 : pb_I h9 217 47 = mI (af_bg D S k) := by rw [k9, k7 47 (by decide)]; exact A6.1
    have n27 : pb_I h9 217 27 = nI (af_G D S (k + 1)) := D9.2.2.1
    have bk := af_bg_le (D := D) (S := S) k
    obtain ⟨g, y1, y2, y3, y4, y5⟩ := m_297c (N := N) (k := k) hd eT hY O hk q H9 D9 v9 n7 (by rw [k9, k7 48 (by decide)]; exact A6.2.1) (by rw [k9, k7 49 (by decide)]; exact A6.2.2.1) (by rw [k9, k7 50 (by decide)]; exact A6.2.2.2.1) (fun m hm => by rw [ma_fr_o e2 (by decide) (by decide), w8 237 (by omega)]; exact A6.2.2.2.2.1 m hm) (fun c hc => by rw [e3 c hc, af_tu_s]) hN
    refine ⟨g, ?_, ma_fr_t f9 y2, y3, y4, y5⟩
    unfold f_297
    rw [if_pos (mi_217 H), z5, Option.bind_some, z6, Option.bind_some, a1, Option.bind_some, e27, b1, Option.bind_some, if_pos (mi_217 H6), c1, Option.bind_some]
    dsimp only
    rw [if_pos (by decide), if_pos (mi_217 H7), d1, Option.bind_some, e1, Option.bind_some, if_pos (mi_217 H9), n7, n27]
    unfold f_297_134
    rw [if_pos (mi_217 H9), n7]
    by_cases c0 : af_bg D S k = 0
    · rw [if_neg (not_not_intro ((mE _ (show af_bg D S k < 2 ^ 31 by omega)).mpr c0))]
      by_cases c6 : 6 ≤ af_G D S (k + 1)
      · rw [if_pos ((lA6 (show af_G D S (k + 1) < 2 ^ 31 by omega)).mpr c6)]
        rw [af_bg_s, if_neg (by omega)] at y1
        exact y1
      · rw [if_neg (fun z => c6 ((lA6 (show af_G D S (k + 1) < 2 ^ 31 by omega)).mp z))]
        rw [af_bg_s, if_pos ⟨c0, by omega⟩, mI_s] at y1
        exact y1
    · rw [if_pos (fun z => c0 ((mE _ (show af_bg D S k < 2 ^ 31 by omega)).mp z))]
      rw [af_bg_s, if_neg (fun z => c0 z.1)] at y1
      exact y1
end
