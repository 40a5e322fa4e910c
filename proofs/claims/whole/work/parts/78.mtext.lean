/-! text: the model, a whole text and where it is kept -/
abbrev tx_fm : List (Nat × Nat) := [(217, 9), (217, 11), (217, 12), (217, 13), (217, 15), (217, 16), (217, 17), (217, 20), (217, 21), (217, 22), (227, 0), (227, 1), (227, 2), (227, 3), (220, 0), (221, 0)]
section
variable {n s : Nat} {B : Nat → Int32}
theorem sp_fn_z {e l : Nat} {p : Nat × Nat} (h : p.1 = 0 → p.2 = 0) : ∀ k, (sp_fn B n e l p k).1 = 0 → (sp_fn B n e l p k).2 = 0
  | 0, q => h q
  | k + 1, q => by
    rw [sp_fn_s] at q ⊢
    split at q
    · rename_i c; rw [if_pos c]; exact sp_fn_z h k q
    · exact absurd q (sp_bl_0 (by decide))
theorem sp_rd_z : ∀ m i p D, (p.1 = 0 → p.2 = 0) → (sp_rd B n s m i p D).1.1 = 0 → (sp_rd B n s m i p D).1.2 = 0
  | 0, i, p, D, h, q => h q
  | m + 1, i, p, D, h, q => by
    unfold sp_rd at q ⊢
    by_cases c : (sp_tk B n i).1 = 0
    · rw [if_pos c] at q ⊢
      dsimp only at q ⊢
      by_cases c2 : s = 0 ∧ p.1 = 0 ∧ (D.1 0 0 < D.2.1.1 ∨ D.1 0 1 < D.2.1.2)
      · rw [if_pos c2] at q; exact absurd (show (4 : Nat) = 0 from q) (by decide)
      · rw [if_neg c2] at q ⊢; exact h q
    · rw [if_neg c] at q ⊢
      by_cases c2 : tx_lk B n s i = true
      · rw [if_pos c2] at q ⊢
        refine sp_rd_z m _ _ _ (fun z => sp_fn_z (fun y => ?_) _ z) q
        unfold sp_lq at y ⊢
        split at y
        · exact absurd y (sp_bl_0 (by decide))
        · rename_i c3; rw [if_neg c3]; exact h y
      · rw [if_neg c2] at q; exact absurd (show (1 : Nat) = 0 from q) (by decide)
end
section
variable {h : pb_HP} {N n s : Nat} {B : Nat → Int32} {p : Nat × Nat} {D : tx_T}
theorem m_193a (H : ma_H h) (v : Int32) (hN : 3000 < N) : ∃ g, pb_wl (f_193_2s N 217 v) N (0, h) = some g ∧ ma_fr [226] [] h g ∧ ∀ k, k < 161 → pb_I g 226 k = 0 := by
  refine ma_lh (fun j s => s.1 = nI j ∧ ma_fr [226] [] h s.2 ∧ ∀ k, k < j → pb_I s.2 226 k = 0) _ 161 0 N _ (by omega) (by omega) ⟨rfl, ma_fr_r _ _ _, fun k hk => absurd hk (Nat.not_lt_zero k)⟩ ?_ ?_
  · rintro j ⟨y, g⟩ _ hj ⟨hy, f, z⟩
    dsimp only at hy f z
    subst hy
    left
    have Hg := ma_H_fr H f
    refine ⟨(nI (j + 1), pb_pI g 226 j 0), ?_, rfl, ma_fr_pI f (.inl (by decide)) _, fun k hk => ?_⟩
    · have e : ¬ (161 : Int32) ≤ nI j := nI_ge (b := 161) hj (by decide)
      simp only [f_193_2s, if_neg e, if_pos (mi_217 Hg), mr_217_18 Hg, Option.bind_some, if_pos (mx_226 Hg hj), nI_clamp (show j < 2 ^ 31 by omega), nI_1]
    · show pb_I (pb_pI g 226 j 0) 226 k = 0
      rw [ma_Ik, if_pos rfl]
      by_cases q : k = j
      · rw [if_pos q]
      · rw [if_neg q]; exact z k (by omega)
  · rintro ⟨y, g⟩ ⟨hy, f, z⟩
    dsimp only at hy f z
    subst hy
    refine ⟨g, ?_, f, z⟩
    have e : (161 : Int32) ≤ nI 161 := by decide
    simp only [f_193_2s, if_pos e]
theorem m_193f (H : ma_H h) {q : Nat} (P : tx_P h p q) (hz : p.1 = 0 → p.2 = 0) (hq : q < 2 ^ 30) : ∃ g, f_193_102 N h 217 1 = some (if p.1 = 0 then 1 else 0, g) ∧ ma_fr [] [(220, 0), (221, 0)] h g ∧ pb_I g 220 0 = nI p.1 ∧ pb_I g 221 0 = mI p.2 := by
  have p4 := P.2.1
  have x0 : pb_ar h 220 12 0 := mx_220 H (j := 0) (by decide)
  have H1 : ma_H (pb_pI h 220 0 (nI p.1)) := H
  have x1 : pb_ar (pb_pI h 220 0 (nI p.1)) 221 12 0 := mx_221 H (j := 0) (by decide)
  have x2 : pb_ar (pb_pI h 220 0 (nI p.1)) 220 12 0 := mx_220 H (j := 0) (by decide)
  have k16 : pb_I (pb_pI h 220 0 (nI p.1)) 217 16 = nI p.1 := by rw [ma_Ik, if_neg (by decide)]; exact P.1
  have fin : ∀ v : Int32, v = mI p.2 → ∃ g, f_193_151 N (pb_pI h 220 0 (nI p.1)) 217 v 0 221 = some (if p.1 = 0 then 1 else 0, g) ∧ ma_fr [] [(220, 0), (221, 0)] h g ∧ pb_I g 220 0 = nI p.1 ∧ pb_I g 221 0 = mI p.2 := fun v ev => by
    subst ev
    unfold f_193_151
    have k0 : pb_I (pb_pI (pb_pI h 220 0 (nI p.1)) 221 0 (mI p.2)) 220 0 = nI p.1 := by rw [ma_Ik, if_neg (by decide), ma_Ik, if_pos rfl, if_pos rfl]
    rw [if_pos x1, if_pos (mi_217 H1), mr_217_3 H1, Option.bind_some, if_pos x2, tx_z0, k0]
    refine ⟨pb_pI (pb_pI h 220 0 (nI p.1)) 221 0 (mI p.2), ?_, ma_fr_pI (ma_fr_pI (ma_fr_r _ _ _) (.inr (by decide)) _) (.inr (by decide)) _, k0, by rw [ma_Ik, if_pos rfl, if_pos rfl]⟩
    by_cases c : p.1 = 0
    · rw [if_neg (not_not_intro (show nI p.1 = 0 by rw [c]; rfl)), if_pos c]
    · rw [if_pos (fun z => c ((lE0 (show p.1 < 2 ^ 31 by omega)).mp z)), if_neg c]
  unfold f_193_102
  rw [if_pos (mi_217 H), mr_217_3 H, Option.bind_some, if_neg (by decide), P.1]
  unfold f_193_119
  rw [if_pos x0, if_pos (mi_217 H), mr_217_4 H, Option.bind_some, if_pos (by decide), tx_z0, k16]
  by_cases c : p.1 = 0
  · rw [if_pos ((lC0 (show p.1 < 2 ^ 31 by omega)).mpr c)]
    exact fin (-1) (by rw [hz c]; rfl)
  · have y := P.2.2 c
    rw [if_neg (fun z => c ((lC0 (show p.1 < 2 ^ 31 by omega)).mp z))]
    refine fin _ ?_
    rw [ma_Ik, if_neg (by decide), y.1, ← mI_s]
    congr 1
    omega
theorem m_193g (H : ma_H h) {w : Nat} (e : pb_I h 217 15 = nI w) : ∃ g, f_193_102 N h 217 0 = some (0, g) ∧ ma_fr [] [(220, 0), (221, 0)] h g ∧ pb_I g 220 0 = nI 1 ∧ pb_I g 221 0 = mI (w + 1) := by
  have x0 : pb_ar h 220 12 0 := mx_220 H (j := 0) (by decide)
  have H1 : ma_H (pb_pI h 220 0 1) := H
  have x1 : pb_ar (pb_pI h 220 0 1) 221 12 0 := mx_221 H (j := 0) (by decide)
  have x2 : pb_ar (pb_pI h 220 0 1) 220 12 0 := mx_220 H (j := 0) (by decide)
  have k15 : pb_I (pb_pI h 220 0 1) 217 15 = nI w := by rw [ma_Ik, if_neg (by decide)]; exact e
  have k0 : pb_I (pb_pI (pb_pI h 220 0 1) 221 0 (nI w)) 220 0 = 1 := by rw [ma_Ik, if_neg (by decide), ma_Ik, if_pos rfl, if_pos rfl]
  unfold f_193_102
  rw [if_pos (mi_217 H), mr_217_3 H, Option.bind_some, if_pos rfl]
  unfold f_193_119
  rw [if_pos x0, if_pos (mi_217 H), mr_217_4 H, Option.bind_some, if_neg (not_not_intro rfl), tx_z0, k15]
  unfold f_193_151
  rw [if_pos x1, if_pos (mi_217 H1), mr_217_3 H1, Option.bind_some, if_pos x2, tx_z0, k0, if_pos (by decide)]
  exact ⟨_, rfl, ma_fr_pI (ma_fr_pI (ma_fr_r _ _ _) (.inr (by decide)) _) (.inr (by decide)) _, k0, by rw [ma_Ik, if_pos rfl, if_pos rfl, mI_s]⟩
theorem m_193 (E : tx_E h B n) (hB : ∀ j, j < n → (B j).toInt8.toInt32 = B j) (hn : n ≤ 600) (hs : s < 3) (hN : 3000 < N) : ∃ g, f_193 N h 217 (nI s) = some (if (sp_rd B n s (n + 1) 0 (0, 0) tx_0).1.1 = 0 then 1 else 0, g) ∧ ma_fr [226] tx_fm h g ∧ pb_I g 220 0 = nI (sp_rd B n s (n + 1) 0 (0, 0) tx_0).1.1 ∧ pb_I g 221 0 = mI (sp_rd B n s (n + 1) 0 (0, 0) tx_0).1.2 ∧ ((sp_rd B n s (n + 1) 0 (0, 0) tx_0).1.1 = 0 → tx_N g s (sp_rd B n s (n + 1) 0 (0, 0) tx_0).2) := by
  have H := E.1
  obtain ⟨g0, a1, a2, a3⟩ := m_193a (N := N) H (nI s) hN
  have H0 := ma_H_fr H a2
  obtain ⟨g1, e1⟩ : ∃ g, g = pb_pI (pb_pI (pb_pI (pb_pI g0 217 20 (-1)) 217 21 (-1)) 217 9 0) 217 16 0 := ⟨_, rfl⟩
  have f1 : ma_fr [226] tx_fm h g1 := by rw [e1]; exact ma_fr_pI (ma_fr_pI (ma_fr_pI (ma_fr_pI (ma_fr_w a2 (by decide) (by decide)) (.inr (by decide)) _) (.inr (by decide)) _) (.inr (by decide)) _) (.inr (by decide)) _
  have H1 := ma_H_fr H f1
  have E1 : tx_E g1 B n := tx_E_fr E f1 (by decide) (by decide) (by decide) (by decide)
  have c9 : pb_I g1 217 9 = nI 0 := by rw [e1, ma_Ik, if_pos rfl, if_neg (by decide), ma_Ik, if_pos rfl, if_pos rfl]; rfl
  have c16 : pb_I g1 217 16 = nI 0 := by rw [e1, ma_Ik, if_pos rfl, if_pos rfl]; rfl
  have c20 : pb_I g1 217 20 = mI 0 := by rw [e1, ma_Ik, if_pos rfl, if_neg (by decide), ma_Ik, if_pos rfl, if_neg (by decide), ma_Ik, if_pos rfl, if_neg (by decide), ma_Ik, if_pos rfl, if_pos rfl]; rfl
  have c21 : pb_I g1 217 21 = mI 0 := by rw [e1, ma_Ik, if_pos rfl, if_neg (by decide), ma_Ik, if_pos rfl, if_neg (by decide), ma_Ik, if_pos rfl, if_pos rfl]; rfl
  have c26 : pb_I g1 226 = pb_I g0 226 := by rw [e1, ma_I_pI, if_neg (by decide), ma_I_pI, if_neg (by decide), ma_I_pI, if_neg (by decide), ma_I_pI, if_neg (by decide)]
  obtain ⟨g2, b1, b2, b3⟩ := m_180 (N := N) E1 hB hn (Nat.zero_le _) c9 hN
  have H2 := ma_H_fr H1 b2
  have z6 : ∀ k, k < 161 → pb_I g2 226 k = nI 0 := fun k hk => by rw [ma_fr_o b2 (by decide) (by decide), c26]; exact a3 k hk
  have N0 : tx_N g2 s tx_0 := ⟨fun _ => ⟨⟨z6 0 (by decide), z6 1 (by decide), fun m hm => z6 _ (by omega), fun m hm => z6 _ (by omega), fun m hm => z6 _ (by omega), fun m hm => z6 _ (by omega), fun m hm => z6 _ (by omega), fun m hm => z6 _ (by omega)⟩, by rw [b2.2.2 217 20 (by decide) (by decide)]; exact c20, by rw [b2.2.2 217 21 (by decide) (by decide)]; exact c21⟩, fun _ => ⟨z6 0 (by decide), fun j i hj => absurd hj (Nat.not_lt_zero j)⟩, fun _ => ⟨z6 0 (by decide), fun j i hj => absurd hj (Nat.not_lt_zero j)⟩⟩
  have W0 : tx_W g2 s := ⟨fun _ => ⟨0, 0, Nat.zero_le _, Nat.zero_le _, z6 0 (by decide), z6 1 (by decide)⟩, fun _ => ⟨0, Nat.zero_le _, z6 0 (by decide)⟩, fun _ => ⟨0, Nat.zero_le _, z6 0 (by decide)⟩⟩
  have S0 : tx_S g2 B n s 0 (0, 0) tx_0 := ⟨tx_E_fr E1 b2 (by decide) (by decide) (by decide) (by decide), b3, ⟨by rw [b2.2.2 217 16 (by decide) (by decide)]; exact c16, Nat.zero_le _, fun z => absurd rfl z⟩, W0, fun _ => N0, tx_0_G⟩
  obtain ⟨r, g3, d1, d2, d3⟩ := m_192l (N := N) hB hn hs hN (n + 1) 0 (0, 0) tx_0 g2 N (by omega) (by omega) (Nat.zero_le _) S0
  have rz := sp_rd_z (B := B) (n := n) (s := s) (n + 1) 0 (0, 0) tx_0 (fun _ => rfl)
  have H3 := ma_H_fr H2 d2
  have r01 : r = 0 ∨ r = 1 := d3.elim (fun q => .inl q.1) (fun q => .inr q.1)
  have f3 : ma_fr [226] tx_fm h g3 := ma_fr_t f1 (ma_fr_t (ma_fr_w b2 (by decide) (by decide)) (ma_fr_w d2 (by decide) (by decide)))
  have u2 : f_192 N g2 217 (nI s) = some (r, g3) := by
    unfold f_192
    rw [d1, Option.bind_some, if_pos r01]
  unfold f_193
  rw [a1, Option.bind_some, if_pos (mi_217 H0), ← e1, b1, Option.bind_some, if_pos (mi_217 H2), u2, Option.bind_some]
  dsimp only
  rcases d3 with ⟨q0, w, D', q1, q2⟩ | ⟨q0, p', D', q1, q2, q3, q4, q5⟩
  · subst q0
    obtain ⟨g4, y1, y2, y3, y4⟩ := m_193g (N := N) H3 q2
    rw [if_pos rfl, y1, q1]
    exact ⟨g4, by rw [if_neg (show ¬ (1 : Nat) = 0 by decide)], ma_fr_t f3 (ma_fr_w y2 (by decide) (by decide)), y3, y4, fun z => absurd (show (1 : Nat) = 0 from z) (by decide)⟩
  · subst q0
    rw [if_neg (by decide)]
    have p4 := q2.2.1
    -- without a missing one
    have pl : sp_rd B n s (n + 1) 0 (0, 0) tx_0 = (p', D') → ∃ g, f_193_102 N g3 217 1 = some (if (sp_rd B n s (n + 1) 0 (0, 0) tx_0).1.1 = 0 then 1 else 0, g) ∧ ma_fr [226] tx_fm h g ∧ pb_I g 220 0 = nI (sp_rd B n s (n + 1) 0 (0, 0) tx_0).1.1 ∧ pb_I g 221 0 = mI (sp_rd B n s (n + 1) 0 (0, 0) tx_0).1.2 ∧ ((sp_rd B n s (n + 1) 0 (0, 0) tx_0).1.1 = 0 → tx_N g s (sp_rd B n s (n + 1) 0 (0, 0) tx_0).2) := fun eq => by
      rw [eq] at rz ⊢
      obtain ⟨g4, y1, y2, y3, y4⟩ := m_193f (N := N) H3 q2 rz (by omega)
      exact ⟨g4, y1, ma_fr_t f3 (ma_fr_w y2 (by decide) (by decide)), y3, y4, fun z => tx_N_e (q4 z) (ma_fr_o y2 (by decide) (by decide)) (y2.2.2 217 20 (by decide) (by decide)) (y2.2.2 217 21 (by decide) (by decide))⟩
    by_cases cs : s = 0
    · subst cs
      rw [if_neg (not_not_intro (show nI 0 = 0 from rfl)), if_pos (mi_217 H3), q2.1]
      by_cases c0 : p'.1 = 0
      · rw [if_neg (not_not_intro (show nI p'.1 = 0 by rw [c0]; rfl))]
        obtain ⟨⟨n0, n1, _⟩, m1, m2⟩ := (q4 c0).1 rfl
        have x0 : pb_ar g3 226 12 0 := mx_226 H3 (j := 0) (by decide)
        have x1 : pb_ar g3 226 12 1 := mx_226 H3 (j := 1) (by decide)
        have b1 := q5.1
        have b2 := q5.2.1
        have b4 := q5.2.2.2.1
        have b5 := q5.2.2.2.2.1
        rw [mr_217_18 H3, Option.bind_some, if_pos x0, tx_z0, n0, m1]
        -- one is missing
        have mi : (D'.1 0 0 < D'.2.1.1 ∨ D'.1 0 1 < D'.2.1.2) → ∃ g, f_193_93 N g3 217 1 = some (if (sp_rd B n 0 (n + 1) 0 (0, 0) tx_0).1.1 = 0 then 1 else 0, g) ∧ ma_fr [226] tx_fm h g ∧ pb_I g 220 0 = nI (sp_rd B n 0 (n + 1) 0 (0, 0) tx_0).1.1 ∧ pb_I g 221 0 = mI (sp_rd B n 0 (n + 1) 0 (0, 0) tx_0).1.2 ∧ ((sp_rd B n 0 (n + 1) 0 (0, 0) tx_0).1.1 = 0 → tx_N g 0 (sp_rd B n 0 (n + 1) 0 (0, 0) tx_0).2) := fun cm => by
          rw [if_pos (⟨rfl, c0, cm⟩ : 0 = 0 ∧ p'.1 = 0 ∧ (D'.1 0 0 < D'.2.1.1 ∨ D'.1 0 1 < D'.2.1.2))] at q1
          obtain ⟨g4, y1, y2, y3⟩ := m_182 H3 q2 (by omega) (f := 4) (by decide)
          have y1 : f_182 g3 217 4 (nI n) = some g4 := y1
          have bl : sp_bl p' 4 n = (4, n + 1) := if_pos c0
          rw [bl] at y3
          have H4 := ma_H_fr H3 y2
          obtain ⟨g5, w1, w2, w3, w4⟩ := m_193f (N := N) H4 y3 (fun z => absurd (show (4 : Nat) = 0 from z) (by decide)) (by omega)
          rw [q1]
          refine ⟨g5, ?_, ma_fr_t f3 (ma_fr_t (ma_fr_w y2 (by decide) (by decide)) (ma_fr_w w2 (by decide) (by decide))), w3, w4, fun z => absurd (show (4 : Nat) = 0 from z) (by decide)⟩
          unfold f_193_93
          rw [if_pos (mi_217 H3), q3, y1, Option.bind_some]
          exact w1
        by_cases c1 : D'.1 0 0 < D'.2.1.1
        · rw [if_pos ((nm_le (by omega) (by omega)).mpr c1)]
          exact mi (.inl c1)
        · rw [if_neg (fun z => c1 ((nm_le (by omega) (by omega)).mp z)), if_pos x1, tx_z1, n1, m2]
          by_cases c2 : D'.1 0 1 < D'.2.1.2
          · rw [if_neg (fun z => by have := (mn_lt (show D'.1 0 1 < 2 ^ 31 by omega) (show D'.2.1.2 < 2 ^ 31 by omega)).mp z; omega)]
            exact mi (.inr c2)
          · rw [if_pos ((mn_lt (show D'.1 0 1 < 2 ^ 31 by omega) (show D'.2.1.2 < 2 ^ 31 by omega)).mpr (by omega))]
            exact pl (by rw [q1, if_neg (fun z => by omega)])
      · rw [if_pos (fun z => c0 ((lE0 (show p'.1 < 2 ^ 31 by omega)).mp z))]
        exact pl (by rw [q1, if_neg (fun z => c0 z.2.1)])
    · rw [if_pos (fun z => cs ((lE0 (show s < 2 ^ 31 by omega)).mp z))]
      exact pl (by rw [q1, if_neg (fun z => cs z.1)])
theorem m_194 (H : ma_H h) {o w k cap : Nat} (x : ∀ g, ma_H g → ∀ j, j < cap → pb_ar g o 12 (nI j)) (ho : o ≠ 226) (hw : w ≤ 161) (hc : w * k + w ≤ cap) (hc2 : cap < 2 ^ 31) (hN : 3000 < N) : ∃ g, f_194 N h 217 o (nI w) (nI k) = some g ∧ ma_fr [o] [] h g ∧ (∀ i, i < w → pb_I g o (w * k + i) = pb_I h 226 i) ∧ ∀ j, j < w * k ∨ w * k + w ≤ j → pb_I g o j = pb_I h o j := by
  have hl : ∃ g, pb_wl (f_194_3s N 217 o (nI w) (nI k)) N (0, h) = some g ∧ (ma_fr [o] [] h g ∧ (∀ i, i < w → pb_I g o (w * k + i) = pb_I h 226 i) ∧ ∀ j, j < w * k ∨ w * k + w ≤ j → pb_I g o j = pb_I h o j) := by
    refine ma_lh (fun j s => s.1 = nI j ∧ ma_fr [o] [] h s.2 ∧ (∀ i, i < j → pb_I s.2 o (w * k + i) = pb_I h 226 i) ∧ ∀ j, j < w * k ∨ w * k + w ≤ j → pb_I s.2 o j = pb_I h o j) _ w 0 N _ (by omega) (by omega) ⟨rfl, ma_fr_r _ _ _, fun i hi => absurd hi (Nat.not_lt_zero i), fun _ _ => rfl⟩ ?_ ?_
    · rintro j ⟨y, g⟩ _ hj ⟨hy, f, f1, f2⟩
      dsimp only at hy f f1 f2
      subst hy
      left
      have Hg := ma_H_fr H f
      have ix : nI w * nI k + nI j = nI (w * k + j) := by rw [pk_mul, nI_add]
      have e6 : pb_I g 226 = pb_I h 226 := ma_fr_o f (by simp; omega) (by simp)
      refine ⟨(nI (j + 1), pb_pI g o (w * k + j) (pb_I h 226 j)), ?_, rfl, ma_fr_pI f (.inl (by simp)) _, fun i hi => ?_, fun i hi => ?_⟩
      · simp only [f_194_3s, if_neg (nI_ge hj (show w < 2 ^ 31 by omega)), if_pos (mi_217 Hg), mr_217_18 Hg, Option.bind_some, if_pos (mx_226 Hg (show j < 161 by omega)), ix, if_pos (x g Hg (w * k + j) (by omega)), nI_clamp (show w * k + j < 2 ^ 31 by omega), nI_clamp (show j < 2 ^ 31 by omega), e6, nI_1]
      · show pb_I (pb_pI g o _ _) o _ = _
        rw [ma_Ik, if_pos rfl]
        by_cases z : i = j
        · rw [if_pos (by omega), z]
        · rw [if_neg (by omega)]; exact f1 i (by omega)
      · show pb_I (pb_pI g o _ _) o i = _
        rw [ma_Ik, if_pos rfl, if_neg (by omega)]; exact f2 i hi
    · rintro ⟨y, g⟩ ⟨hy, f, f1, f2⟩
      dsimp only at hy f f1 f2
      subst hy
      refine ⟨g, ?_, f, f1, f2⟩
      simp only [f_194_3s, if_pos (nI_le (Nat.le_refl w) (show w < 2 ^ 31 by omega))]
  obtain ⟨g, a1, a2⟩ := hl
  refine ⟨g, ?_, a2⟩
  unfold f_194
  rw [a1]
  rfl
end
