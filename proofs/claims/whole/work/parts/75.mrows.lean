/-! text: the model's lines of a county joined; deeds and facts -/
section
variable {h : pb_HP} {N n e l b s : Nat} {B : Nat → Int32} {p : Nat × Nat} {D : tx_T}
theorem tx_O_r {g : pb_HP} {r : Int32} (O : tx_O h g B n e l s p D r) : r = 0 ∨ r = 1 := by
  rcases O.2 with q | q
  · exact .inl q.1
  · exact .inr q.1
theorem m_187 {at' : Nat} (hl : l < 5) (J : tx_J h B n e at' 0 p D) (hB : ∀ j, j < n → (B j).toInt8.toInt32 = B j) (hn : n ≤ 600) (he : e ≤ n) (hN : 3000 < N) : ∃ r g, f_187 N h 217 (tx_w l) (nI at') = some (r, g) ∧ tx_O h g B n e l 0 (if tx_fu D l then sp_bl p 3 at' else p) D r := by
  have H := J.1.1
  have c0 : ∀ l, l < 5 → (lg_cmp (tx_w l) 7168366 = 0 ↔ l = 0) ∧ (lg_cmp (tx_w l) 426953501796 = 0 ↔ l = 1) ∧ (lg_cmp (tx_w l) 439787549299 = 0 ↔ l = 3) ∧ (lg_cmp (tx_w l) 6840691 = 0 ↔ l = 2) ∧ (lg_cmp (tx_w l) 465625113971 = 0 ↔ l = 4) := by decide +kernel
  have c0 := c0 l hl
  unfold f_187
  by_cases d0 : l = 0
  · obtain ⟨r, g, a1, a2⟩ := m_185 (N := N) J hB hn he hN
    rw [if_neg (not_not_intro (c0.1.mpr d0)), if_pos (mi_217 H), a1, Option.bind_some]
    dsimp only
    rw [if_pos (tx_O_r a2), d0]
    exact ⟨r, g, rfl, a2⟩
  · rw [if_pos (fun z => d0 (c0.1.mp z))]
    by_cases d1 : l = 1
    · obtain ⟨r, g, a1, a2⟩ := m_186 (N := N) J hB hn he hN
      rw [if_neg (not_not_intro (c0.2.1.mpr d1)), if_pos (mi_217 H), a1, Option.bind_some]
      dsimp only
      rw [if_pos (tx_O_r a2), d1]
      exact ⟨r, g, rfl, a2⟩
    · rw [if_pos (fun z => d1 (c0.2.1.mp z))]
      have nf : tx_fu D l = false := by unfold tx_fu; rw [if_neg d0, if_neg d1, if_pos hl]
      rw [nf, if_neg (show ¬ (false = true) by decide)]
      obtain ⟨E, e9, ha, P, e22, W, Nn, G⟩ := J
      have nc3 : ∀ l, l < 5 → 2 ≤ l → (l = 4 ∨ sp_nc l = 2) ∧ tx_lo l 0 = 0 ∧ tx_lo l 1 = 0 ∧ tx_lo l 2 = 0 ∧ tx_hi l 0 = 5 ∧ tx_hi l 1 = 5 ∧ (¬ l = 4 ∨ (sp_nc l = 3 ∧ tx_hi l 2 = 9)) := by decide +kernel
      have nc3 := nc3 l hl (by omega)
      have nc2 : (l ≠ 4 → sp_nc l = 2) ∧ tx_lo l 0 = 0 ∧ tx_lo l 1 = 0 ∧ tx_lo l 2 = 0 ∧ tx_hi l 0 = 5 ∧ tx_hi l 1 = 5 ∧ (l = 4 → sp_nc l = 3 ∧ tx_hi l 2 = 9) := ⟨fun z => nc3.1.resolve_left z, nc3.2.1, nc3.2.2.1, nc3.2.2.2.1, nc3.2.2.2.2.1, nc3.2.2.2.2.2.1, fun z => nc3.2.2.2.2.2.2.resolve_left (not_not_intro z)⟩
      have nc' : 2 ≤ sp_nc l := by
        by_cases z : l = 4
        · have := (nc2.2.2.2.2.2.2 z).1; omega
        · have := nc2.1 z; omega
      obtain ⟨g0, z1, R0⟩ := m_st (N := N) (l := l) (b := 0) (p := p) (h := h) h (ma_fr_r _ _ _) E hB hn he e9 (tx_P_m P (by omega)) e22 rfl rfl rfl hN
      have H0 := R0.2.1.1
      have body : ∃ r g, f_187_57 N h 217 (tx_w l) = some (r, g) ∧ tx_O h g B n e l 0 p D r := by
        unfold f_187_57
        rw [if_pos (mi_217 H), z1, Option.bind_some, if_pos (mi_217 H0)]
        rcases m_tk2 (N := N) (kk := 0) (lo := 0) (hi := 5) R0 hB hn he (by omega) (by omega) (by decide) hN rfl (by rw [nc2.2.1]; rfl) (by rw [nc2.2.2.2.2.1]; rfl) with ⟨_, g1, w1, R1⟩ | ⟨g1, w1, w2, w3, w4⟩
        · have H1 := R1.2.1.1
          rw [w1, Option.bind_some]
          dsimp only
          rw [if_neg (by decide), if_pos (mi_217 H1)]
          rcases m_tk2 (N := N) (kk := 1) (lo := 0) (hi := 5) R1 hB hn he (by omega) (by omega) (by decide) hN rfl (by rw [nc2.2.2.1]; rfl) (by rw [nc2.2.2.2.2.2.1]; rfl) with ⟨_, g2, w2, R2⟩ | ⟨g2, w2, w3, w4, w5⟩
          · have H2 := R2.2.1.1
            rw [w2, Option.bind_some]
            dsimp only
            rw [if_neg (by decide)]
            by_cases d4 : l = 4
            · rw [if_neg (not_not_intro (c0.2.2.2.2.mpr d4)), if_pos (mi_217 H2)]
              rcases m_tk2 (N := N) (kk := 2) (lo := 0) (hi := 9) R2 hB hn he (by omega) (by rw [(nc2.2.2.2.2.2.2 d4).1]; decide) (by decide) hN rfl (by rw [nc2.2.2.2.1]; rfl) (by rw [(nc2.2.2.2.2.2.2 d4).2]; rfl) with ⟨_, g3, w3, R3⟩ | ⟨g3, w3, w4, w5, w6⟩
              · rw [w3, Option.bind_some]
                dsimp only
                rw [if_pos (by decide)]
                subst d4
                exact m_187l R3 hB he W Nn G
              · rw [w3, Option.bind_some]
                exact ⟨0, g3, rfl, tx_R_O0 w4 w5 w6⟩
            · rw [if_pos (fun z => d4 (c0.2.2.2.2.mp z))]
              by_cases d2 : l = 2
              · subst d2; exact m_187h R2 W Nn G
              · have d3 : l = 3 := by omega
                subst d3; exact m_187f R2 W Nn G
          · rw [w2, Option.bind_some]
            exact ⟨0, g2, rfl, tx_R_O0 w3 w4 w5⟩
        · rw [w1, Option.bind_some]
          exact ⟨0, g1, rfl, tx_R_O0 w2 w3 w4⟩
      by_cases d2 : lg_cmp (tx_w l) 6840691 = 0
      · rw [if_pos d2]; exact body
      · rw [if_neg d2]
        by_cases d3 : lg_cmp (tx_w l) 439787549299 = 0
        · rw [if_pos d3]; exact body
        · rw [if_neg d3]
          have d4 : lg_cmp (tx_w l) 465625113971 = 0 := c0.2.2.2.2.mpr (by
            have : ¬ l = 2 := fun z => d2 (c0.2.2.2.1.mpr z)
            have : ¬ l = 3 := fun z => d3 (c0.2.2.1.mpr z)
            omega)
          rw [if_pos d4]; exact body
theorem m_187n {q : Nat} {v : Int64} (H : ma_H h) (e11 : pb_I h 217 11 = nI q) (ne : ∀ l, l < 5 → ¬ v = tx_w l) (x : Int32) : ∃ g, f_187 N h 217 v x = some (0, g) ∧ ma_fr [] [(217, 15)] h g ∧ pb_I g 217 15 = nI q := by
  have W : tx_w 0 = 7168366 ∧ tx_w 1 = 426953501796 ∧ tx_w 2 = 6840691 ∧ tx_w 3 = 439787549299 ∧ tx_w 4 = 465625113971 := by decide +kernel
  have c0 : ¬ lg_cmp v 7168366 = 0 := fun z => ne 0 (by decide) (((tx_cmp _ _).mp z).trans W.1.symm)
  have c1 : ¬ lg_cmp v 426953501796 = 0 := fun z => ne 1 (by decide) (((tx_cmp _ _).mp z).trans W.2.1.symm)
  have c2 : ¬ lg_cmp v 6840691 = 0 := fun z => ne 2 (by decide) (((tx_cmp _ _).mp z).trans W.2.2.1.symm)
  have c3 : ¬ lg_cmp v 439787549299 = 0 := fun z => ne 3 (by decide) (((tx_cmp _ _).mp z).trans W.2.2.2.1.symm)
  have c4 : ¬ lg_cmp v 465625113971 = 0 := fun z => ne 4 (by decide) (((tx_cmp _ _).mp z).trans W.2.2.2.2.symm)
  obtain ⟨g, a1, a2, a3⟩ := m_181 H e11
  refine ⟨g, ?_, a2, a3⟩
  unfold f_187
  rw [if_pos c0, if_pos c1, if_neg c2, if_neg c3, if_neg c4, if_pos (mi_217 H), a1]
  rfl
theorem m_188 (H : ma_H h) {a w most : Nat} (e : pb_I h 226 0 = nI a) (ha : a ≤ most) (hw : w ≤ 4) (hm : 1 + w * most ≤ 161) (hm2 : most ≤ 40) (hN : 3000 < N) : ∃ g, f_188 N h 217 (nI w) (nI most) = some g ∧ ma_fr [226] [] h g ∧ pb_J g = pb_J h ∧ ((a = most ∧ g = h) ∨ (a < most ∧ pb_I g 226 0 = nI (a + 1) ∧ (∀ i, i < w → pb_I g 226 (1 + w * a + i) = pb_I h 227 i) ∧ ∀ j, 1 ≤ j → j < 1 + w * a → pb_I g 226 j = pb_I h 226 j)) := by
  have x0 : pb_ar h 226 12 0 := mx_226 H (j := 0) (by decide)
  unfold f_188
  rw [if_pos (mi_217 H), mr_217_18 H, Option.bind_some, if_pos x0]
  simp only [tx_z0, e]
  by_cases c : a = most
  · rw [if_neg (not_not_intro (by rw [c]))]
    exact ⟨h, rfl, ma_fr_r _ _ _, rfl, .inl ⟨c, rfl⟩⟩
  · rw [if_pos (fun z => c ((nI_eq (show a < 2 ^ 31 by omega) (show most < 2 ^ 31 by omega)).mp z))]
    have mw : w * a + w ≤ w * most := by
      have := Nat.mul_le_mul_left w (show a + 1 ≤ most by omega)
      rw [Nat.mul_add, Nat.mul_one] at this
      exact this
    have hl : ∃ x, pb_wl (f_188_16s N 217 (nI w) (nI a)) N (0, h) = some x ∧ (ma_fr [226] [] h x ∧ pb_J x = pb_J h ∧ pb_I x 226 0 = nI a ∧ (∀ i, i < w → pb_I x 226 (1 + w * a + i) = pb_I h 227 i) ∧ ∀ j, 1 ≤ j → j < 1 + w * a → pb_I x 226 j = pb_I h 226 j) := by
      refine ma_lh (fun k s => s.1 = nI k ∧ ma_fr [226] [] h s.2 ∧ pb_J s.2 = pb_J h ∧ pb_I s.2 226 0 = nI a ∧ (∀ i, i < k → pb_I s.2 226 (1 + w * a + i) = pb_I h 227 i) ∧ ∀ j, 1 ≤ j → j < 1 + w * a → pb_I s.2 226 j = pb_I h 226 j) _ w 0 N _ (by omega) (by omega) ⟨rfl, ma_fr_r _ _ _, rfl, e, fun i hi => absurd hi (Nat.not_lt_zero i), fun _ _ _ => rfl⟩ ?_ ?_
      · rintro k ⟨y, g⟩ _ hk ⟨hy, f, fj, f0, f1, f2⟩
        dsimp only at hy f fj f0 f1 f2
        subst hy
        left
        have Hg := ma_H_fr H f
        have ix : (1 + (nI w * nI a)) + nI k = nI (1 + w * a + k) := by rw [pk_mul, lG1, nI_add]
        refine ⟨(nI (k + 1), pb_pI g 226 (1 + w * a + k) (pb_I h 227 k)), ?_, rfl, ma_fr_pI f (.inl (by decide)) _, fj, ?_, fun i hi => ?_, fun j h1 h2 => ?_⟩
        · simp only [f_188_16s, if_neg (nI_ge hk (show w < 2 ^ 31 by omega)), if_pos (mi_217 Hg), mr_217_18 Hg, mr_217_19 Hg, Option.bind_some, if_pos (mx_227 Hg (show k < 4 by omega)), ix, if_pos (mx_226 Hg (show 1 + w * a + k < 161 by omega)), nI_clamp (show 1 + w * a + k < 2 ^ 31 by omega), nI_clamp (show k < 2 ^ 31 by omega), nI_1, ma_fr_o f (show 227 ∉ [226] by decide) (show 227 ∉ ([] : List (Nat × Nat)).map Prod.fst by decide)]
        · show pb_I (pb_pI g 226 _ _) 226 0 = _
          rw [ma_Ik, if_pos rfl, if_neg (by omega)]; exact f0
        · show pb_I (pb_pI g 226 _ _) 226 _ = _
          rw [ma_Ik, if_pos rfl]
          by_cases z : i = k
          · rw [if_pos (by omega), z]
          · rw [if_neg (by omega)]; exact f1 i (by omega)
        · show pb_I (pb_pI g 226 _ _) 226 j = _
          rw [ma_Ik, if_pos rfl, if_neg (by omega)]; exact f2 j h1 h2
      · rintro ⟨y, g⟩ ⟨hy, f, fj, f0, f1, f2⟩
        dsimp only at hy f fj f0 f1 f2
        subst hy
        refine ⟨g, ?_, f, fj, f0, f1, f2⟩
        simp only [f_188_16s, if_pos (nI_le (Nat.le_refl w) (show w < 2 ^ 31 by omega))]
    obtain ⟨x, y1, y2, y3, y4, y5, y6⟩ := hl
    have Hx := ma_H_fr H y2
    have x1 : pb_ar x 226 12 0 := mx_226 Hx (j := 0) (by decide)
    rw [y1, Option.bind_some, if_pos (mi_217 Hx), mr_217_18 Hx, Option.bind_some, if_pos x1, y4, nI_1]
    refine ⟨_, rfl, ma_fr_pI y2 (.inl (by decide)) _, y3, .inr ⟨by omega, ?_, fun i hi => ?_, fun j h1 h2 => ?_⟩⟩
    · rw [ma_Ik, if_pos rfl, if_pos rfl]
    · rw [ma_Ik, if_pos rfl, if_neg (by omega)]; exact y5 i hi
    · rw [ma_Ik, if_pos rfl, if_neg (by omega)]; exact y6 j h1 h2
/-- a row is kept -/
theorem m_keep {h0 g : pb_HP} (R : tx_R h0 g B n e l 1 (sp_nc l) p) (fh : ma_fr [] tx_fl h h0) {a w most q : Nat} (ea : pb_I h 226 0 = nI a) (ha : a ≤ most) (hw : w ≤ 4) (hm : 1 + w * most ≤ 161) (hm2 : most ≤ 40) {Y : ma_Y} {d : Nat → Int32} (hd : ∀ i, i < w → pb_I (pb_pI g 227 0 (nI q)) 227 i = d i) (hN : 3000 < N) : ∃ g', f_188 N (pb_pI g 227 0 (nI q)) 217 (nI w) (nI most) = some g' ∧ ma_fr [226] tx_fl h g' ∧ tx_M g' B n (sp_te B n e (sp_nc l)) ∧ tx_P g' (sp_fn B n e l p (sp_nc l)) (sp_te B n e (sp_nc l)) ∧ (∃ a', a' ≤ most ∧ pb_I g' 226 0 = nI a') ∧ (a < most → a = Y.1 → ma_Ly h 226 0 w Y → ma_Ly g' 226 0 w (tx_row Y d)) := by
  have Hg := R.2.1.1
  have f0 : ma_fr [] tx_fl h (pb_pI g 227 0 (nI q)) := ma_fr_pI (ma_fr_t fh R.1) (.inr (by decide)) _
  have k6 : pb_I (pb_pI g 227 0 (nI q)) 226 = pb_I h 226 := ma_fr_o f0 (by decide) (by decide)
  obtain ⟨g', y1, y2, y3, y4⟩ := m_188 (N := N) (h := pb_pI g 227 0 (nI q)) (a := a) (w := w) (most := most) Hg (by rw [k6]; exact ea) ha hw hm hm2 hN
  have c17 : ∀ k, pb_I g' 217 k = pb_I g 217 k := fun k => by rw [ma_fr_o y2 (by decide) (by decide), ma_Ik, if_neg (by decide)]
  refine ⟨g', y1, ma_fr_t (ma_fr_w f0 (by decide) (by decide)) (ma_fr_w y2 (by decide) (by decide)), tx_M_e R.2.2.1 c17 (y3.trans rfl), tx_P_e R.2.2.2.1 (c17 16) (c17 17), ?_, fun c eY L => ?_⟩
  · rcases y4 with ⟨z1, z2⟩ | ⟨z1, z2, _⟩
    · exact ⟨a, ha, by rw [z2, k6]; exact ea⟩
    · exact ⟨a + 1, by omega, z2⟩
  · rcases y4 with ⟨z1, _⟩ | ⟨z1, z2, z3, z4⟩
    · omega
    · refine ⟨by rw [z2, eY]; rfl, fun j i hj hi => ?_⟩
      have hj : j < Y.1 + 1 := hj
      show _ = (if j = Y.1 then d else Y.2 j) i
      by_cases c2 : j = Y.1
      · rw [if_pos c2, c2, ← eY, Nat.zero_add, z3 i hi]; exact hd i hi
      · rw [if_neg c2]
        have := L.2 j i (by omega) hi
        have lt : w * j + w ≤ w * a := by
          have := Nat.mul_le_mul_left w (show j + 1 ≤ a by omega)
          rw [Nat.mul_add, Nat.mul_one] at this
          exact this
        rw [z4 _ (by omega) (by omega), k6]; exact this
end
