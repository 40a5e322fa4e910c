/-! What would be: show, later. -/
theorem ma_ct185 : ma_ct 185 := by unfold ma_ct; decide
theorem ma_pl192 : ma_pl 192 := by unfold ma_pl; decide
theorem sp_up_up (K : ma_K) (i k v w : Nat) : sp_up (sp_up K i k v) i k w = sp_up K i k w := by
  funext a b
  by_cases e : a = i ∧ b = k
  · rw [e.1, e.2, sp_up_s, sp_up_s]
  · rw [sp_up_n (by omega), sp_up_n (by omega), sp_up_n (by omega)]
theorem sp_up_id (K : ma_K) (i k : Nat) : sp_up K i k (K i k) = K := by
  funext a b
  by_cases e : a = i ∧ b = k
  · rw [e.1, e.2, sp_up_s]
  · rw [sp_up_n (by omega)]
def sp_p63 (K : ma_K) : Nat := sp_pk K (sp_to K) 63
section
variable {h : pb_HP} {K : ma_K} {N : Nat}
theorem c_109 (H : ma_H h) (V : ma_V h 185 K) (O : ma_OK K) (hN : 3000 < N) : ∃ g, f_109 N h 184 = some (nI (sp_p63 K), g) ∧ ma_fr [192, 193] [] h g := by
  obtain ⟨g, a1, a2, a3, a4⟩ := c_76 (N := N) H V O ma_pl192 (by omega) hN
  have H2 := ma_H_fr H a2
  have e77 : f_77 N g 192 63 = some (nI (sp_p63 K)) := by
    have := c_77 H2 ma_pl192 O.1 a3 (fun c _ => sp_pp_le O c) (b := 63) (by decide) hN
    rw [sp_q_pk O (fun c m hc hm => sp_pp_to c m hc hm) 63] at this
    exact this
  refine ⟨g, ?_, a2⟩
  simp only [f_109, if_pos (mi_184 H), mr_184_1 H, mr_184_0 H, Option.bind_some, if_pos (mi_192 H), a1, if_pos (mi_184 H2), mr_184_1 H2, if_pos (mi_192 H2), e77]
theorem c_110 (H : ma_H h) (V : ma_V h 185 K) (O : ma_OK K) (hN : 3000 < N) : ∃ g, f_110 N h 184 = some (nI (sp_vs K), g) ∧ ma_fr [192, 193] [] h g := by
  obtain ⟨g, a1, a2, a3, a4⟩ := c_76 (N := N) H V O ma_pl192 (by omega) hN
  have H2 := ma_H_fr H a2
  refine ⟨g, ?_, a2⟩
  simp only [f_110, if_pos (mi_184 H), mr_184_1 H, mr_184_0 H, Option.bind_some, if_pos (mi_192 H), a1, if_pos (mi_184 H2), mr_184_1 H2, if_pos (mi_192 H2), a4]
theorem m_210p (H : ma_H h) (hM : ma_M h K) (O : ma_OK K) (hN : 3000 < N) : ∃ g, f_210 N h 217 = some (nI (sp_p63 K), g) ∧ ma_fr [233] [] h g := m_210 H hM O hN
/-- what the trial's county and poll are -/
abbrev ma_tL : List Nat := [185, 186, 187, 188, 189, 190, 191, 192, 193]
theorem ma_tq {g : pb_HP} (f : ma_fr ma_tL [] h g) : ma_q h g := ma_q_fr f (by decide)
theorem ma_V_tp {g : pb_HP} (V : ma_V h 185 K) (f : ma_fr [192, 193] [] h g) : ma_V g 185 K := ma_V_fr V f (fun o a b => ⟨by simp; omega, by simp⟩)
def sp_shg (K : ma_K) (m s b : Nat) : Nat := if (b = 0 ∨ sp_on s < sp_on (b - 1)) ∧ s &&& K 2 m = 0 ∧ sp_p63 (sp_up K 2 m (K 2 m ||| s)) = m then s + 1 else b
def sp_sh (K : ma_K) (m : Nat) : Nat := ma_fo (sp_shg K m) 64 0
theorem sp_shg_le (K : ma_K) (m n : Nat) : ma_fo (sp_shg K m) n 0 ≤ n := ma_fo_inv (g := sp_shg K m) (P := fun j a => a ≤ j) (a0 := 0) (Nat.le_refl _) n (fun j a hj ha => by unfold sp_shg; split <;> omega)
theorem c_112l (O : ma_OK K) {m : Nat} (hm : m < K 0 0) (H : ma_H h) (V : ma_V h 185 K) (hN : 3000 < N) : ∃ g, pb_wl (f_112_21s N 184 (nI m) (nI (K 2 m))) N (-1, 0, h) = some (mI (sp_sh K m), g) ∧ ma_fr ma_tL [] h g := by
  have hme := O.1
  have bm := (O.2.2.1 m).2.1
  have hl : ∃ e, pb_wl (f_112_21s N 184 (nI m) (nI (K 2 m))) N (-1, 0, h) = some e ∧ (e.1 = mI (sp_sh K m) ∧ ma_fr ma_tL [] h e.2) := by
    refine ma_lh (fun j s => s.1 = mI (ma_fo (sp_shg K m) j 0) ∧ s.2.1 = nI j ∧ ma_fr ma_tL [] h s.2.2 ∧ ∃ v, v < 64 ∧ ma_V s.2.2 185 (sp_up K 2 m v)) _ 64 0 N _ (by omega) (by omega) ⟨rfl, rfl, ma_fr_r _ _ _, K 2 m, bm, by rw [sp_up_id]; exact V⟩ ?_ ?_
    · rintro j ⟨x, i, g⟩ _ hj ⟨hx, hi, hf, v, hv, V2⟩
      dsimp only at hx hi hf V2
      subst hx; subst hi
      left
      have H2 := ma_H_fr H hf
      have hle := sp_shg_le K m j
      obtain ⟨b, hb⟩ : ∃ b, b = ma_fo (sp_shg K m) j 0 := ⟨_, rfl⟩
      rw [← hb] at hle ⊢
      have e63 : ¬ (63 : Int32) < nI j := (not_congr (lB63 (by omega))).mpr (by omega)
      have eand : (nI j &&& nI (K 2 m) = 0) ↔ (j &&& K 2 m = 0) := by
        rw [fa_and]
        have := Nat.and_le_left (n := j) (m := K 2 m)
        exact lE0 (by omega)
      have hlt : K 2 m ||| j < 64 := Nat.or_lt_two_pow (n := 6) bm (by omega)
      have O3 := ma_OK_up2 O hm hlt
      have f1 : ma_fr ma_tL [] h (pb_pI g 187 m (nI (K 2 m ||| j))) := ma_fr_pI hf (.inl (by decide)) _
      have V3 : ma_V (pb_pI g 187 m (nI (K 2 m ||| j))) 185 (sp_up K 2 m (K 2 m ||| j)) := by
        have := ma_V_p2 V2 m (K 2 m ||| j)
        rw [sp_up_up] at this
        exact this
      have H3 : ma_H (pb_pI g 187 m (nI (K 2 m ||| j))) := H2
      obtain ⟨g2, a1, a2⟩ := c_109 (N := N) H3 V3 O3 hN
      have hp := sp_pk_le O3 (sp_to (sp_up K 2 m (K 2 m ||| j))) 63
      have hp : sp_p63 (sp_up K 2 m (K 2 m ||| j)) ≤ 6 := hp
      have epk : (nI (sp_p63 (sp_up K 2 m (K 2 m ||| j))) = nI m) = (sp_p63 (sp_up K 2 m (K 2 m ||| j)) = m) := propext (nI_eq (by omega) (by omega))
      have go : f_112_54 N g 184 (nI m) (nI (K 2 m)) (mI b) (nI j) = some (.inl (if sp_p63 (sp_up K 2 m (K 2 m ||| j)) = m then nI j else mI b, nI (j + 1), g2)) := by
        simp only [f_112_54, if_pos (mi_184 H2), mr_184_0 H2, Option.bind_some, if_pos (mi_185 H2), mr_185_3 H2, if_pos (mx_187 H2 (show m < 6 by omega)), nI_clamp (show m < 2 ^ 31 by omega), fa_or, a1, epk, nI_1]
        by_cases z : sp_p63 (sp_up K 2 m (K 2 m ||| j)) = m
        · rw [if_neg (fun y => y z), if_pos z]
        · rw [if_pos z, if_neg z]
      have f2 : ma_fr ma_tL [] h g2 := ma_fr_t f1 (ma_fr_w a2 (by decide) (by decide))
      have V4 := ma_V_tp V3 a2
      have stay : ∀ z, mI (ma_fo (sp_shg K m) (j + 1) 0) = mI (sp_shg K m j b) → z = mI (sp_shg K m j b) → z = mI (ma_fo (sp_shg K m) (j + 1) 0) := fun z y w => w.trans y.symm
      have es : ma_fo (sp_shg K m) (j + 1) 0 = sp_shg K m j b := by rw [ma_fo_s, ← hb]
      rw [es]
      by_cases q1 : j &&& K 2 m = 0
      · by_cases q2 : b = 0 ∨ sp_on j < sp_on (b - 1)
        · refine ⟨(if sp_p63 (sp_up K 2 m (K 2 m ||| j)) = m then nI j else mI b, nI (j + 1), g2), ?_, ?_, rfl, f2, _, hlt, V4⟩
          · unfold f_112_21s
            dsimp only
            rw [if_neg e63, if_neg (fun z => z (eand.mpr q1))]
            by_cases q3 : b = 0
            · rw [if_pos (by rw [q3]; rfl)]; exact go
            · rw [if_neg ((not_congr (mE b (by omega))).mpr q3), m_305 (show j < 64 by omega), Option.bind_some, m_305m (by omega) (by omega), Option.bind_some, if_neg]
              · exact go
              · have c1 := sp_on_le j
                have c2 := sp_on_le (b - 1)
                exact nI_ge (by omega) (by omega)
          · dsimp only
            unfold sp_shg
            by_cases q4 : sp_p63 (sp_up K 2 m (K 2 m ||| j)) = m
            · rw [if_pos q4, if_pos ⟨q2, q1, q4⟩, mI_s]
            · rw [if_neg q4, if_neg (fun z => q4 z.2.2)]
        · refine ⟨(mI b, nI (j + 1), g), ?_, ?_, rfl, hf, v, hv, V2⟩
          · unfold f_112_21s
            dsimp only
            have q3 : ¬ b = 0 := fun z => q2 (.inl z)
            have q5 : ¬ sp_on j < sp_on (b - 1) := fun z => q2 (.inr z)
            have c1 := sp_on_le j
            have c2 := sp_on_le (b - 1)
            rw [if_neg e63, if_neg (fun z => z (eand.mpr q1)), if_neg ((not_congr (mE b (by omega))).mpr q3), m_305 (show j < 64 by omega), Option.bind_some, m_305m (by omega) (by omega), Option.bind_some, if_pos (nI_le (by omega) (by omega)), nI_1]
          · dsimp only
            unfold sp_shg
            rw [if_neg (fun z => q2 z.1)]
      · refine ⟨(mI b, nI (j + 1), g), ?_, ?_, rfl, hf, v, hv, V2⟩
        · unfold f_112_21s
          dsimp only
          rw [if_neg e63, if_pos (fun z => q1 (eand.mp z)), nI_1]
        · dsimp only
          unfold sp_shg
          rw [if_neg (fun z => q1 z.2.1)]
    · rintro ⟨x, i, g⟩ ⟨hx, hi, hf, v, hv, V2⟩
      dsimp only at hx hi hf V2
      subst hx; subst hi
      exact ⟨(mI (sp_sh K m), g), rfl, rfl, hf⟩
  obtain ⟨⟨x, g⟩, a1, a2, a3⟩ := hl
  dsimp only at a2 a3
  rw [a2] at a1
  exact ⟨g, a1, a3⟩
theorem m_229l (O : ma_OK K) {m : Nat} (hm : m < K 0 0) (H : ma_H h) (M : ma_M h K) (hN : 3000 < N) (t : Int32) : ∃ g, pb_wl (f_229_37s N 217 (nI m) t (nI (K 2 m))) N (-1, 0, h) = some (mI (sp_sh K m), g) ∧ ma_fr [228, 233] [] h g := by
  have hme := O.1
  have bm := (O.2.2.1 m).2.1
  have hl : ∃ e, pb_wl (f_229_37s N 217 (nI m) t (nI (K 2 m))) N (-1, 0, h) = some e ∧ (e.1 = mI (sp_sh K m) ∧ ma_fr [228, 233] [] h e.2) := by
    refine ma_lh (fun j s => s.1 = mI (ma_fo (sp_shg K m) j 0) ∧ s.2.1 = nI j ∧ ma_fr [228, 233] [] h s.2.2 ∧ ∃ v, v < 64 ∧ ma_M s.2.2 (sp_up K 2 m v)) _ 64 0 N _ (by omega) (by omega) ⟨rfl, rfl, ma_fr_r _ _ _, K 2 m, bm, by rw [sp_up_id]; exact M⟩ ?_ ?_
    · rintro j ⟨x, i, g⟩ _ hj ⟨hx, hi, hf, v, hv, M2⟩
      dsimp only at hx hi hf M2
      subst hx; subst hi
      left
      have H2 := ma_H_fr H hf
      have hle := sp_shg_le K m j
      obtain ⟨b, hb⟩ : ∃ b, b = ma_fo (sp_shg K m) j 0 := ⟨_, rfl⟩
      rw [← hb] at hle ⊢
      have e64 : ¬ (64 : Int32) ≤ nI j := (not_congr (lA64 (by omega))).mpr (by omega)
      have eand : (nI j &&& nI (K 2 m) = 0) ↔ (j &&& K 2 m = 0) := by
        rw [fa_and]
        have := Nat.and_le_left (n := j) (m := K 2 m)
        exact lE0 (by omega)
      have hlt : K 2 m ||| j < 64 := Nat.or_lt_two_pow (n := 6) bm (by omega)
      have O3 := ma_OK_up2 O hm hlt
      have f1 : ma_fr [228, 233] [] h (pb_pI g 228 m (nI (K 2 m ||| j))) := ma_fr_pI hf (.inl (by decide)) _
      have M3 : ma_M (pb_pI g 228 m (nI (K 2 m ||| j))) (sp_up K 2 m (K 2 m ||| j)) := by
        have := ma_M_p2 M2 m (K 2 m ||| j)
        rw [sp_up_up] at this
        exact this
      have H3 : ma_H (pb_pI g 228 m (nI (K 2 m ||| j))) := H2
      obtain ⟨g2, a1, a2⟩ := m_210p (N := N) H3 M3 O3 hN
      have hp := sp_pk_le O3 (sp_to (sp_up K 2 m (K 2 m ||| j))) 63
      have hp : sp_p63 (sp_up K 2 m (K 2 m ||| j)) ≤ 6 := hp
      have epk : (nI (sp_p63 (sp_up K 2 m (K 2 m ||| j))) = nI m) = (sp_p63 (sp_up K 2 m (K 2 m ||| j)) = m) := propext (nI_eq (by omega) (by omega))
      have f2 : ma_fr [228, 233] [] h g2 := ma_fr_t f1 (ma_fr_w a2 (by decide) (by decide))
      have M4 : ma_M g2 (sp_up K 2 m (K 2 m ||| j)) := ma_M_fr M3 a2 (by decide) (by decide)
      have es : ma_fo (sp_shg K m) (j + 1) 0 = sp_shg K m j b := by rw [ma_fo_s, ← hb]
      have e0 : f_229_68 N g 217 (nI m) t (nI (K 2 m)) (mI b) (nI j) 0 = some (.inl (mI b, nI (j + 1), pb_pI g 228 m (nI (K 2 m ||| j)))) := by
        simp only [f_229_68, if_pos (mi_217 H2), mr_217_30 H2, Option.bind_some, if_pos (mx_228 H2 (show m < 6 by omega)), if_true, nI_clamp (show m < 2 ^ 31 by omega), fa_or, nI_1]
      have e1 : f_229_68 N g 217 (nI m) t (nI (K 2 m)) (mI b) (nI j) 1 = some (.inl (if j &&& K 2 m = 0 ∧ sp_p63 (sp_up K 2 m (K 2 m ||| j)) = m then nI j else mI b, nI (j + 1), if j &&& K 2 m = 0 then g2 else pb_pI g 228 m (nI (K 2 m ||| j)))) := by
        simp only [f_229_68, if_pos (mi_217 H2), mr_217_30 H2, Option.bind_some, if_pos (mx_228 H2 (show m < 6 by omega)), i10, if_false, nI_clamp (show m < 2 ^ 31 by omega), eand, fa_or, a1, epk, nI_1]
        by_cases y1 : j &&& K 2 m = 0 <;> by_cases y2 : sp_p63 (sp_up K 2 m (K 2 m ||| j)) = m <;> simp only [y1, y2, not_true_eq_false, not_false_eq_true, if_true, if_false, and_true, and_false, true_and, false_and]
      rw [es]
      by_cases q2 : b = 0 ∨ sp_on j < sp_on (b - 1)
      · refine ⟨(if j &&& K 2 m = 0 ∧ sp_p63 (sp_up K 2 m (K 2 m ||| j)) = m then nI j else mI b, nI (j + 1), if j &&& K 2 m = 0 then g2 else pb_pI g 228 m (nI (K 2 m ||| j))), ?_, ?_, rfl, ?_, _, hlt, ?_⟩
        · unfold f_229_37s
          dsimp only
          rw [if_neg e64]
          by_cases q3 : b = 0
          · rw [if_pos (by rw [q3]; rfl)]; exact e1
          · rw [if_neg ((not_congr (mE b (by omega))).mpr q3), m_172 (show j < 2 ^ 31 by omega) hN, Option.bind_some, m_172m (by omega) (by omega) hN, Option.bind_some, if_neg]
            · exact e1
            · have c1 := sp_on_le j
              have c2 := sp_on_le (b - 1)
              exact nI_ge (by omega) (by omega)
        · dsimp only
          unfold sp_shg
          by_cases q4 : j &&& K 2 m = 0 ∧ sp_p63 (sp_up K 2 m (K 2 m ||| j)) = m
          · rw [if_pos q4, if_pos ⟨q2, q4⟩, mI_s]
          · rw [if_neg q4, if_neg (fun z => q4 z.2)]
        · dsimp only
          split
          · exact f2
          · exact f1
        · dsimp only
          split
          · exact M4
          · exact M3
      · refine ⟨(mI b, nI (j + 1), pb_pI g 228 m (nI (K 2 m ||| j))), ?_, ?_, rfl, f1, _, hlt, M3⟩
        · unfold f_229_37s
          dsimp only
          have q3 : ¬ b = 0 := fun z => q2 (.inl z)
          have q5 : ¬ sp_on j < sp_on (b - 1) := fun z => q2 (.inr z)
          have c1 := sp_on_le j
          have c2 := sp_on_le (b - 1)
          rw [if_neg e64, if_neg ((not_congr (mE b (by omega))).mpr q3), m_172 (show j < 2 ^ 31 by omega) hN, Option.bind_some, m_172m (by omega) (by omega) hN, Option.bind_some, if_pos (nI_le (by omega) (by omega)), e0]
        · dsimp only
          unfold sp_shg
          rw [if_neg (fun z => q2 z.1)]
    · rintro ⟨x, i, g⟩ ⟨hx, hi, hf, v, hv, V2⟩
      dsimp only at hx hi hf V2
      subst hx; subst hi
      exact ⟨(mI (sp_sh K m), g), rfl, rfl, hf⟩
  obtain ⟨⟨x, g⟩, a1, a2, a3⟩ := hl
  dsimp only at a2 a3
  rw [a2] at a1
  exact ⟨g, a1, a3⟩
end
section
variable {h : pb_HP} {N : Nat}
theorem q_show (I : ma_INV h) (hN : 3000 < N) (x y t : Int32) : ma_Q h (f_133 N h 0 x y t) (fun g => f_229 N g 217 x y t) := by
  have H := I.1
  have hq : ma_q h (pb_pI h 217 0 0) := ma_q_pI (ma_q_r h) (by decide) 0 0
  rcases ma_W I hN x with ⟨e1, e2⟩ | ⟨c, K, e1, hc, O, OT, V, e2⟩
  · exact ⟨-1, h, pb_pI h 217 0 0, by simp only [f_133, if_pos (mi_0 H), mr_0_0 H, Option.bind_some, if_pos (mi_1 H), e1], ma_q_r h, by simp only [f_229, if_pos (mi_217 H), e2 _ hq, Option.bind_some, i10, i01, true_or, or_true, false_or, or_false, true_and, and_true, and_false, false_and, not_true_eq_false, not_false_eq_true, if_true, if_false, eq_self, ma_b0, Bool.false_eq_true, Bool.true_eq_false, reduceCtorEq], hq⟩
  · have hO := O.1
    cases qm : ma_at y (K 0 0)
    · obtain ⟨g, e3, q3, B⟩ := e2 _ hq
      exact ⟨-1, h, g, by simp only [f_133, if_pos (mi_0 H), mr_0_0 H, Option.bind_some, if_pos (mi_1 H), e1, if_pos (wv_is H V.1), c_3 H V, qm, i10, i01, true_or, or_true, false_or, or_false, true_and, and_true, and_false, false_and, not_true_eq_false, not_false_eq_true, if_true, if_false, eq_self, ma_b0, Bool.false_eq_true, Bool.true_eq_false, reduceCtorEq], ma_q_r h, by simp only [f_229, if_pos (mi_217 H), e3, Option.bind_some, if_pos (mi_217 B.1), m_200 B.1 B.2.1 O, qm, i10, i01, true_or, or_true, false_or, or_false, true_and, and_true, and_false, false_and, not_true_eq_false, not_false_eq_true, if_true, if_false, eq_self, ma_b0, Bool.false_eq_true, Bool.true_eq_false, reduceCtorEq], ma_q_t hq q3⟩
    · obtain ⟨m, hm, rfl⟩ := ma_at_ex (by omega) qm
      obtain ⟨g0, b1, b2, b3⟩ := c_2 H V O ma_ct185 (by omega)
      have H0 := ma_H_fr H b2
      have V0 : ma_V g0 c K := ma_V_fr V b2 (fun o a b => ⟨by simp; omega, by simp⟩)
      obtain ⟨g1, b4, b5⟩ := c_112l (N := N) O hm H0 b3 hN
      have qg : ma_q h g1 := ma_q_t (ma_q_fr b2 (by decide)) (ma_tq b5)
      obtain ⟨g, e3, q3, B⟩ := e2 _ (ma_q_pI qg (by decide : ¬ ma_ps 217) 0 0)
      obtain ⟨g2, m1, m2⟩ := m_229l (N := N) O hm B.1 B.2.1 hN t
      have hle : sp_sh K m ≤ 64 := sp_shg_le K m 64
      refine ⟨if sp_sh K m = 0 then -1 else if t = 0 then nI (sp_on (sp_sh K m - 1)) else mI (sp_sh K m), g1, g2, ?_, qg, ?_, ma_q_t (ma_q_pI (ma_q_r g1) (by decide) 0 0) (ma_q_t q3 (ma_q_fr m2 (by decide)))⟩
      · have z : f_112 N h 184 c (nI m) = some (mI (sp_sh K m), g1) := by
          simp only [f_112, if_pos (mi_184 H), mr_184_0 H, Option.bind_some, if_pos (mi_185 H), b1, if_pos (wv_is H0 V0.1), jv_r3 H0 V0.1, if_pos (wv_x2 H0 V0.1 (show m < 6 by omega)), nI_clamp (show m < 2 ^ 31 by omega), V0.2.2.2.2.1 m (by omega), b4]
        simp only [f_133, if_pos (mi_0 H), mr_0_0 H, Option.bind_some, if_pos (mi_1 H), e1, if_pos (wv_is H V.1), c_3 H V, qm, mr_0_5 H, if_pos (mi_184 H), z, c_164m hle, i10, i01, true_or, or_true, false_or, or_false, true_and, and_true, and_false, false_and, not_true_eq_false, not_false_eq_true, if_true, if_false, eq_self, ma_b0, Bool.false_eq_true, Bool.true_eq_false, reduceCtorEq]
      · simp only [f_229, if_pos (mi_217 (ma_H_q H qg)), e3, Option.bind_some, if_pos (mi_217 B.1), m_200 B.1 B.2.1 O, qm, mr_217_30 B.1, if_pos (mx_228 B.1 (show m < 6 by omega)), nI_clamp (show m < 2 ^ 31 by omega), B.2.1.2.2.1 m (by omega), m1, mE _ (show sp_sh K m < 2 ^ 31 by omega), i10, i01, true_or, or_true, false_or, or_false, true_and, and_true, and_false, false_and, not_true_eq_false, not_false_eq_true, if_true, if_false, eq_self, ma_b0, Bool.false_eq_true, Bool.true_eq_false, reduceCtorEq]
        by_cases q : sp_sh K m = 0
        · simp only [q, if_true, mI_0]
        · rw [if_neg q, if_neg q, m_172m (by omega) hle hN]
          by_cases q2 : t = 0
          · simp only [q2, if_true, Option.bind_some]
          · simp only [q2, if_false]
end
