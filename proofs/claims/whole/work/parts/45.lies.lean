/-! lies, trade -/
def sp_pi (K : ma_K) (i v c : Nat) : Nat := if c = i then v else sp_pp K c
def sp_ti (K : ma_K) (i v c : Nat) : Nat := if c = i then v else sp_to K c
theorem sp_pi_q {K : ma_K} (O : ma_OK K) {i v : Nat} (hi : i < K 0 1) (hv : sp_vt K i = true) : sp_q (K 0 0) (sp_pi K i v) 63 = sp_pk K (sp_ti K i v) 63 := sp_q_pk O (fun c m hc hm => by
  unfold sp_pi sp_ti
  by_cases e : c = i
  · rw [if_pos e, if_pos e, e]
    exact ⟨fun z => ⟨hi, hv, z⟩, fun z => z.2.2⟩
  · rw [if_neg e, if_neg e]
    exact sp_pp_to c m hc hm) 63
/-- who would be picked, if a child pointed to m -/
def sp_lw (K : ma_K) (i m : Nat) : Nat := sp_pk K (sp_ti K i m) 63
def sp_lZ (K : ma_K) (i m : Nat) : Prop := sp_lw K i m < 6 ∧ sp_rg K i (sp_p63 K) < sp_rg K i (sp_lw K i m)
section
variable {h : pb_HP} {K : ma_K} {N c : Nat}
theorem c_83 (H : ma_H h) (V : ma_V h c K) (O : ma_OK K) (hc : c = 3 ∨ c = 10) (P0 : ma_P h 182 (K 0 0) (sp_pp K)) {i : Nat} (hi : i < K 0 1) (hv : sp_vt K i = true) (hN : 3000 < N) : ∃ r g, f_83 N h 182 c (nI i) = some (r, g) ∧ ma_fr [183] [] h g ∧ ((sp_p63 K = 6 ∧ r = -1) ∨ (sp_p63 K < 6 ∧ ((r = -1 ∧ ∀ m, m < K 0 0 → ¬ sp_lZ K i m) ∨ ∃ m, m < K 0 0 ∧ r = nI m ∧ sp_lZ K i m ∧ ∀ k, k < m → ¬ sp_lZ K i k))) := by
  have hme := O.1
  have hch := O.2.1
  have i6 : i < 6 := by omega
  have hpk := sp_pk_le O (sp_to K) 63
  have hpk : sp_p63 K ≤ 6 := hpk
  have e0 : f_77 N h 182 63 = some (nI (sp_p63 K)) := by
    have := c_77 (N := N) H ma_pl182 O.1 P0 (fun c _ => sp_pp_le O c) (b := 63) (by decide) hN
    rw [sp_q_pk O (fun c m hc hm => sp_pp_to c m hc hm) 63] at this
    exact this
  by_cases q0 : sp_p63 K = 6
  · refine ⟨-1, h, ?_, ma_fr_r _ _ _, .inl ⟨q0, rfl⟩⟩
    simp only [f_83, if_pos (mi_182 H), e0, Option.bind_some, (show (nI (sp_p63 K) = 6) = True from eq_true ((lE6 (by omega)).mpr q0)), not_true_eq_false, if_false]
  have q6 : sp_p63 K < 6 := by omega
  have hle := sp_rg_le O i
  have rg0 := c_9 (N := N) H V O i6 q6 hN
  have hl : ∃ e, pb_wl (f_83_37s N 182 c (nI i) (nI (sp_pp K i)) (mI (sp_rg K i (sp_p63 K)))) N (-1, 0, h) = some e ∧ (ma_fr [183] [] h e.2 ∧ ((e.1 = -1 ∧ ∀ m, m < K 0 0 → ¬ sp_lZ K i m) ∨ ∃ m, m < K 0 0 ∧ e.1 = nI m ∧ sp_lZ K i m ∧ ∀ k, k < m → ¬ sp_lZ K i k)) := by
    refine ma_lh (fun j s => s.2.1 = nI j ∧ ma_fr [183] [] h s.2.2 ∧ (∃ v, v ≤ 6 ∧ ma_P s.2.2 182 (K 0 0) (sp_pi K i v)) ∧ ((s.1 = -1 ∧ ∀ m, m < j → ¬ sp_lZ K i m) ∨ ∃ m, m + 1 = j ∧ s.1 = nI m ∧ sp_lZ K i m ∧ ∀ k, k < m → ¬ sp_lZ K i k)) _ (K 0 0) 0 N _ (by omega) (by omega) ⟨rfl, ma_fr_r _ _ _, ⟨sp_pp K i, sp_pp_le O i, P0.1, fun c hc => ?_⟩, .inl ⟨rfl, fun m hm => absurd hm (Nat.not_lt_zero m)⟩⟩ ?_ ?_
    · show pb_I h 183 c = _
      rw [P0.2 c hc]
      unfold sp_pi
      split
      · rename_i e; rw [e]
      · rfl
    · rintro j ⟨x, k, g⟩ _ hj ⟨hk, hf, ⟨v, hv6, P2⟩, hx⟩
      dsimp only at hk hf P2 hx
      subst hk
      have H2 := ma_H_fr H hf
      have V2 : ma_V g c K := ma_V_fr V hf (fun o a b => ⟨by simp; omega, by simp⟩)
      rcases hx with ⟨hx, hz⟩ | ⟨m, m1, m2, m3, m4⟩
      · subst hx
        left
        have f2 : ma_fr [183] [] h (pb_pI g 183 i (nI j)) := ma_fr_pI hf (.inl (by decide)) _
        have H3 : ma_H (pb_pI g 183 i (nI j)) := H2
        have V3 : ma_V (pb_pI g 183 i (nI j)) c K := ma_V_o V2 (by omega) _ _
        have P3 : ma_P (pb_pI g 183 i (nI j)) 182 (K 0 0) (sp_pi K i j) := by
          refine ⟨?_, fun c hc => ?_⟩
          · rw [ma_Ik, if_neg (by decide)]; exact P2.1
          · show pb_I (pb_pI g 183 i (nI j)) 183 c = _
            rw [ma_Ik, if_pos rfl]
            have := P2.2 c hc
            unfold sp_pi at this ⊢
            by_cases e : c = i
            · rw [if_pos e, if_pos e]
            · rw [if_neg e, if_neg e]
              rw [if_neg e] at this
              exact this
        have e1 : f_77 N (pb_pI g 183 i (nI j)) 182 63 = some (nI (sp_lw K i j)) := by
          have := c_77 (N := N) H3 ma_pl182 O.1 P3 (fun c _ => by unfold sp_pi; split; omega; exact sp_pp_le O c) (b := 63) (by decide) hN
          rw [sp_pi_q O hi hv] at this
          exact this
        have hw : sp_lw K i j ≤ 6 := sp_pk_le O _ _
        by_cases z6 : sp_lw K i j = 6
        · refine ⟨(-1, nI (j + 1), pb_pI g 183 i (nI j)), ?_, rfl, f2, ⟨j, by omega, P3⟩, .inl ⟨rfl, fun m hm => ?_⟩⟩
          · simp only [f_83_37s, if_pos (mi_182 H2), P2.1, if_neg (nI_ge hj (show K 0 0 < 2 ^ 31 by omega)), not_true_eq_false, if_false, mr_182_2 H2, Option.bind_some, if_pos (mx_183 H2 i6), nI_clamp (show i < 2 ^ 31 by omega), e1, (show (nI (sp_lw K i j) = 6) = True from eq_true ((lE6 (by omega)).mpr z6)), if_true, nI_1]
          · by_cases e : m = j
            · rw [e]; intro z; have := z.1; omega
            · exact hz m (by omega)
        · have z5 : sp_lw K i j < 6 := by omega
          have r1 := c_9 (N := N) H3 V3 O i6 z5 hN
          have b1 := hle (sp_lw K i j)
          have b2 := hle (sp_p63 K)
          have le : (mI (sp_rg K i (sp_lw K i j)) ≤ mI (sp_rg K i (sp_p63 K))) = (sp_rg K i (sp_lw K i j) ≤ sp_rg K i (sp_p63 K)) := propext (mI_le (by omega) (by omega))
          by_cases zz : sp_rg K i (sp_p63 K) < sp_rg K i (sp_lw K i j)
          · refine ⟨(nI j, nI (j + 1), pb_pI g 183 i (nI j)), ?_, rfl, f2, ⟨j, by omega, P3⟩, .inr ⟨j, rfl, rfl, ⟨z5, zz⟩, hz⟩⟩
            simp only [f_83_37s, if_pos (mi_182 H2), P2.1, if_neg (nI_ge hj (show K 0 0 < 2 ^ 31 by omega)), not_true_eq_false, if_false, mr_182_2 H2, Option.bind_some, if_pos (mx_183 H2 i6), nI_clamp (show i < 2 ^ 31 by omega), e1, (show (nI (sp_lw K i j) = 6) = False from eq_false ((not_congr (lE6 (by omega))).mpr z6)), if_pos (wv_is H2 V2.1), r1, le, if_neg (Nat.not_le.mpr zz), nI_1]
          · refine ⟨(-1, nI (j + 1), pb_pI g 183 i (nI j)), ?_, rfl, f2, ⟨j, by omega, P3⟩, .inl ⟨rfl, fun m hm => ?_⟩⟩
            · simp only [f_83_37s, if_pos (mi_182 H2), P2.1, if_neg (nI_ge hj (show K 0 0 < 2 ^ 31 by omega)), not_true_eq_false, if_false, mr_182_2 H2, Option.bind_some, if_pos (mx_183 H2 i6), nI_clamp (show i < 2 ^ 31 by omega), e1, (show (nI (sp_lw K i j) = 6) = False from eq_false ((not_congr (lE6 (by omega))).mpr z6)), if_pos (wv_is H2 V2.1), r1, le, if_pos (Nat.not_lt.mp zz), nI_1]
            · by_cases e : m = j
              · rw [e]; intro z; exact zz z.2
              · exact hz m (by omega)
      · right
        refine ⟨(x, g), ?_, hf, .inr ⟨m, by omega, m2, m3, m4⟩⟩
        have nx : ¬ x = -1 := by rw [m2]; exact fun z => (mF m (by omega)).mp z
        simp only [f_83_37s, if_pos (mi_182 H2), P2.1, if_neg (nI_ge hj (show K 0 0 < 2 ^ 31 by omega)), if_pos nx]
    · rintro ⟨x, k, g⟩ ⟨hk, hf, ⟨v, hv6, P2⟩, hx⟩
      dsimp only at hk hf P2 hx
      subst hk
      have H2 := ma_H_fr H hf
      refine ⟨(x, g), ?_, hf, ?_⟩
      · simp only [f_83_37s, if_pos (mi_182 H2), P2.1, if_pos (nI_le (Nat.le_refl _) (show K 0 0 < 2 ^ 31 by omega))]
      · rcases hx with hx | ⟨m, m1, m2, m3, m4⟩
        · exact .inl hx
        · exact .inr ⟨m, by omega, m2, m3, m4⟩
  obtain ⟨⟨r, g⟩, a1, a2, a3⟩ := hl
  dsimp only at a2 a3
  have H2 := ma_H_fr H a2
  refine ⟨r, pb_pI g 183 i (nI (sp_pp K i)), ?_, ma_fr_pI a2 (.inl (by decide)) _, .inr ⟨q6, a3⟩⟩
  have p1 : pb_I h 183 i = nI (sp_pp K i) := P0.2 i i6
  simp only [f_83, if_pos (mi_182 H), e0, Option.bind_some, (show (nI (sp_p63 K) = 6) = False from eq_false ((not_congr (lE6 (by omega))).mpr q0)), not_false_eq_true, if_true, mr_182_2 H, if_pos (mx_183 H i6), nI_clamp (show i < 2 ^ 31 by omega), p1, if_pos (wv_is H V.1), rg0, a1, f_83_97, if_pos (mi_182 H2), mr_182_2 H2, if_pos (mx_183 H2 i6)]
theorem m_285l (H : ma_H h) (M : ma_M h K) (O : ma_OK K) (T0 : ma_to h (sp_to K)) {i : Nat} (hi : i < K 0 1) (hN : 3000 < N) : ∃ e, pb_wl (f_285_39s N 217 (nI i) (nI (sp_p63 K))) N (0, h) = some e ∧ ((sp_p63 K = 6 ∧ ∃ g, e = .inr g ∧ ma_fr [233] [] h g) ∨ (sp_p63 K < 6 ∧ ((∃ g, e = .inr g ∧ ma_fr [233] [] h g ∧ ∀ m, m < K 0 0 → ¬ sp_lZ K i m) ∨ ∃ m g, m < K 0 0 ∧ e = .inl (nI m, g) ∧ ma_fr [233] [] h g ∧ sp_lZ K i m ∧ ∀ k, k < m → ¬ sp_lZ K i k))) := by
  have hme := O.1
  have hch := O.2.1
  have i6 : i < 6 := by omega
  have hpk := sp_pk_le O (sp_to K) 63
  have hpk : sp_p63 K ≤ 6 := hpk
  have fin : ∀ g, ma_fr [233] [] h g → pb_I g 217 24 = nI (K 0 0) := fun g f => by rw [ma_fr_o f (by decide) (by decide)]; exact M.1
  by_cases q0 : sp_p63 K = 6
  · obtain ⟨n, rfl⟩ : ∃ n, N = n + 1 := ⟨N - 1, by omega⟩
    refine ⟨.inr h, ?_, .inl ⟨q0, h, rfl, ma_fr_r _ _ _⟩⟩
    unfold pb_wl
    have e6 : (6 : Int32) ≤ nI (sp_p63 K) := (lA6 (by omega)).mpr (by omega)
    simp only [f_285_39s, if_pos (mi_217 H), if_pos e6, ite_self]
  have q6 : sp_p63 K < 6 := by omega
  have e6 : ¬ (6 : Int32) ≤ nI (sp_p63 K) := (not_congr (lA6 (by omega))).mpr (by omega)
  have hl : ∃ e, pb_wl (f_285_39s N 217 (nI i) (nI (sp_p63 K))) N (0, h) = some e ∧ ((∃ g, e = .inr g ∧ ma_fr [233] [] h g ∧ ∀ m, m < K 0 0 → ¬ sp_lZ K i m) ∨ ∃ m g, m < K 0 0 ∧ e = .inl (nI m, g) ∧ ma_fr [233] [] h g ∧ sp_lZ K i m ∧ ∀ k, k < m → ¬ sp_lZ K i k) := by
    refine ma_lh (fun j s => s.1 = nI j ∧ ma_fr [233] [] h s.2 ∧ (∃ v, v ≤ 6 ∧ ma_to s.2 (sp_ti K i v)) ∧ ∀ m, m < j → ¬ sp_lZ K i m) _ (K 0 0) 0 N _ (by omega) (by omega) ⟨rfl, ma_fr_r _ _ _, ⟨sp_to K i, sp_to_le O i, fun c hc => ?_⟩, fun m hm => absurd hm (Nat.not_lt_zero m)⟩ ?_ ?_
    · rw [T0 c hc]
      unfold sp_ti
      split
      · rename_i e; rw [e]
      · rfl
    · rintro j ⟨k, g⟩ _ hj ⟨hk, hf, ⟨v, hv6, T2⟩, hz⟩
      dsimp only at hk hf T2
      subst hk
      have H2 := ma_H_fr H hf
      have f2 : ma_fr [233] [] h (pb_pI g 233 i (nI j)) := ma_fr_pI hf (.inl (by decide)) _
      have H3 : ma_H (pb_pI g 233 i (nI j)) := H2
      have M3 : ma_M (pb_pI g 233 i (nI j)) K := ma_M_fr M f2 (by decide) (by decide)
      have T3 : ma_to (pb_pI g 233 i (nI j)) (sp_ti K i j) := fun c hc => by
        rw [ma_Ik, if_pos rfl]
        have := T2 c hc
        unfold sp_ti at this ⊢
        by_cases e : c = i
        · rw [if_pos e, if_pos e]
        · rw [if_neg e, if_neg e]
          rw [if_neg e] at this
          exact this
      have e1 : f_209 N (pb_pI g 233 i (nI j)) 217 63 = some (nI (sp_lw K i j)) := m_209 (N := N) H3 M3 O T3 (fun c _ => by unfold sp_ti; split; omega; exact sp_to_le O c) (b := 63) (by decide) hN
      have hw : sp_lw K i j ≤ 6 := sp_pk_le O _ _
      by_cases z6 : sp_lw K i j = 6
      · left
        refine ⟨(nI (j + 1), pb_pI g 233 i (nI j)), ?_, rfl, f2, ⟨j, by omega, T3⟩, fun m hm => ?_⟩
        · simp only [f_285_39s, if_pos (mi_217 H2), fin g hf, if_neg (nI_ge hj (show K 0 0 < 2 ^ 31 by omega)), if_neg e6, mr_217_35 H2, Option.bind_some, if_pos (mx_233 H2 i6), nI_clamp (show i < 2 ^ 31 by omega), e1, if_pos ((lA6 (show sp_lw K i j < 2 ^ 31 by omega)).mpr (by omega)), nI_1]
        · by_cases e : m = j
          · rw [e]; intro z; have := z.1; omega
          · exact hz m (by omega)
      · have z5 : sp_lw K i j < 6 := by omega
        have r1 := m_259 (N := N) H3 M3 O i6 z5 q6 hN
        by_cases zz : sp_rg K i (sp_p63 K) < sp_rg K i (sp_lw K i j)
        · right
          rw [if_pos zz] at r1
          refine ⟨.inl (nI j, pb_pI g 233 i (nI j)), ?_, .inr ⟨j, _, hj, rfl, f2, ⟨z5, zz⟩, hz⟩⟩
          simp only [f_285_39s, if_pos (mi_217 H2), fin g hf, if_neg (nI_ge hj (show K 0 0 < 2 ^ 31 by omega)), if_neg e6, mr_217_35 H2, Option.bind_some, if_pos (mx_233 H2 i6), nI_clamp (show i < 2 ^ 31 by omega), e1, if_neg ((not_congr (lA6 (show sp_lw K i j < 2 ^ 31 by omega))).mpr (by omega)), r1, i10, if_false]
        · left
          rw [if_neg zz] at r1
          refine ⟨(nI (j + 1), pb_pI g 233 i (nI j)), ?_, rfl, f2, ⟨j, by omega, T3⟩, fun m hm => ?_⟩
          · simp only [f_285_39s, if_pos (mi_217 H2), fin g hf, if_neg (nI_ge hj (show K 0 0 < 2 ^ 31 by omega)), if_neg e6, mr_217_35 H2, Option.bind_some, if_pos (mx_233 H2 i6), nI_clamp (show i < 2 ^ 31 by omega), e1, if_neg ((not_congr (lA6 (show sp_lw K i j < 2 ^ 31 by omega))).mpr (by omega)), r1, if_true, nI_1]
          · by_cases e : m = j
            · rw [e]; intro z; exact zz z.2
            · exact hz m (by omega)
    · rintro ⟨k, g⟩ ⟨hk, hf, _, hz⟩
      dsimp only at hk hf
      subst hk
      have H2 := ma_H_fr H hf
      refine ⟨.inr g, ?_, .inl ⟨g, rfl, hf, hz⟩⟩
      simp only [f_285_39s, if_pos (mi_217 H2), fin g hf, if_pos (nI_le (Nat.le_refl _) (show K 0 0 < 2 ^ 31 by omega))]
  obtain ⟨e, a1, a2⟩ := hl
  exact ⟨e, a1, .inr ⟨q6, a2⟩⟩
end
section
variable {h : pb_HP} {N : Nat}
theorem q_lies (I : ma_INV h) (hN : 3000 < N) (x y : Int32) : ma_Q h (f_153 N h 0 x y) (fun g => f_285 N g 217 x y) := by
  have H := I.1
  have hq : ma_q h (pb_pI h 217 0 0) := ma_q_pI (ma_q_r h) (by decide) 0 0
  rcases ma_W I hN x with ⟨e1, e2⟩ | ⟨c, K, e1, hc, O, OT, V, e2⟩
  · exact ⟨-1, h, pb_pI h 217 0 0, by simp only [f_153, if_pos (mi_0 H), mr_0_0 H, Option.bind_some, if_pos (mi_1 H), e1], ma_q_r h, by simp only [f_285, if_pos (mi_217 H), e2 _ hq, Option.bind_some, i10, i01, true_or, or_true, false_or, or_false, true_and, and_true, and_false, false_and, not_true_eq_false, not_false_eq_true, if_true, if_false, eq_self, ma_b0, Bool.false_eq_true, Bool.true_eq_false, reduceCtorEq], hq⟩
  · have hO := O.2.1
    cases qm : ma_at y (K 0 1)
    · obtain ⟨g, e3, q3, B⟩ := e2 _ hq
      exact ⟨-1, h, g, by simp only [f_153, if_pos (mi_0 H), mr_0_0 H, Option.bind_some, if_pos (mi_1 H), e1, if_pos (wv_is H V.1), c_7n H V qm, qm, i10, i01, true_or, or_true, false_or, or_false, true_and, and_true, and_false, false_and, not_true_eq_false, not_false_eq_true, if_true, if_false, eq_self, ma_b0, Bool.false_eq_true, Bool.true_eq_false, reduceCtorEq], ma_q_r h, by simp only [f_285, if_pos (mi_217 H), e3, Option.bind_some, if_pos (mi_217 B.1), m_201 B.1 B.2.1 O, qm, i10, i01, true_or, or_true, false_or, or_false, true_and, and_true, and_false, false_and, not_true_eq_false, not_false_eq_true, if_true, if_false, eq_self, ma_b0, Bool.false_eq_true, Bool.true_eq_false, reduceCtorEq], ma_q_t hq q3⟩
    · obtain ⟨i, hi, rfl⟩ := ma_at_ex (by omega) qm
      have hi6 : i < 6 := by omega
      have v1 := c_7 H V O hi6
      by_cases qv : sp_vt K i = true
      · rw [if_pos ⟨hi, qv⟩] at v1
        obtain ⟨g, a1, a2, a3, a4, aP, a5⟩ := ma_ask (N := N) H V O hc hN
        have V3 := ma_V_q V a2 hc
        obtain ⟨r, g1, b1, b2, b3⟩ := c_83 (N := N) a3 V3 O hc aP hi qv hN
        have qg : ma_q h g1 := ma_q_t a2 (ma_q_fr b2 (by decide))
        obtain ⟨g2, e3, q3, B⟩ := e2 _ (ma_q_pI qg (by decide : ¬ ma_ps 217) 0 0)
        have v2 := m_202 B.1 B.2.1 O hi6
        rw [qv] at v2
        obtain ⟨g3, m1, m2⟩ := m_208 (N := N) B.1 B.2.1 O hN
        have H3 := ma_H_fr B.1 m2.1
        have M3 := ma_M_fr B.2.1 m2.1 (by decide) (by decide)
        have e9 : f_209 N g3 217 63 = some (nI (sp_p63 K)) := m_209 (N := N) H3 M3 O m2.2 (fun c _ => sp_to_le O c) (b := 63) (by decide) hN
        have e10 : f_210 N g2 217 = some (nI (sp_p63 K), g3) := by
          simp only [f_210, if_pos (mi_217 B.1), m1, Option.bind_some, if_pos (mi_217 H3), e9]
        obtain ⟨e, n1, n2⟩ := m_285l (N := N) H3 M3 O m2.2 hi hN
        have fin : ∃ g4, (match e with | .inl q => some q | .inr x => some ((-1 : Int32), x)) = some (r, g4) ∧ ma_fr [233] [] g3 g4 := by
          rcases n2 with ⟨z, g4, rfl, f4⟩ | ⟨z, ⟨g4, rfl, f4, no⟩ | ⟨m, g4, mm, rfl, f4, zm, zk⟩⟩
          · rcases b3 with ⟨_, rfl⟩ | ⟨z2, _⟩
            · exact ⟨g4, rfl, f4⟩
            · omega
          · rcases b3 with ⟨z2, _⟩ | ⟨_, ⟨rfl, _⟩ | ⟨m, mm, _, zm, _⟩⟩
            · omega
            · exact ⟨g4, rfl, f4⟩
            · exact absurd zm (no m mm)
          · rcases b3 with ⟨z2, _⟩ | ⟨_, ⟨_, no⟩ | ⟨m', mm', rfl, zm', zk'⟩⟩
            · omega
            · exact absurd zm (no m mm)
            · have : m = m' := by
                rcases Nat.lt_trichotomy m m' with l | l | l
                · exact absurd zm (zk' m l)
                · exact l
                · exact absurd zm' (zk m' l)
              subst this
              exact ⟨g4, rfl, f4⟩
        obtain ⟨g4, n3, n4⟩ := fin
        refine ⟨r, g1, g4, ?_, qg, ?_, ma_q_t (ma_q_pI (ma_q_r g1) (by decide) 0 0) (ma_q_t q3 (ma_q_t (ma_q_fr m2.1 (by decide)) (ma_q_fr n4 (by decide))))⟩
        · simp only [f_153, if_pos (mi_0 H), mr_0_0 H, Option.bind_some, if_pos (mi_1 H), e1, if_pos (wv_is H V.1), v1, mr_0_4 H, if_pos (mi_182 H), a1, if_pos (mi_0 a3), mr_0_4 a3, if_pos (mi_182 a3), b1, i10, i01, true_or, or_true, false_or, or_false, true_and, and_true, and_false, false_and, not_true_eq_false, not_false_eq_true, if_true, if_false, eq_self, ma_b0, Bool.false_eq_true, Bool.true_eq_false, reduceCtorEq]
        · simp only [f_285, if_pos (mi_217 (ma_H_q H qg)), e3, Option.bind_some, if_pos (mi_217 B.1), m_201 B.1 B.2.1 O, qm, v2, e10, n1, i10, i01, true_or, or_true, false_or, or_false, true_and, and_true, and_false, false_and, not_true_eq_false, not_false_eq_true, if_true, if_false, eq_self, ma_b0, Bool.false_eq_true, Bool.true_eq_false, reduceCtorEq]
          exact n3
      · rw [if_neg (fun q => qv q.2)] at v1
        obtain ⟨g, e3, q3, B⟩ := e2 _ hq
        have v2 := m_202 B.1 B.2.1 O hi6
        rw [show sp_vt K i = false by simpa using qv] at v2
        exact ⟨-1, h, g, by simp only [f_153, if_pos (mi_0 H), mr_0_0 H, Option.bind_some, if_pos (mi_1 H), e1, if_pos (wv_is H V.1), v1, i10, i01, true_or, or_true, false_or, or_false, true_and, and_true, and_false, false_and, not_true_eq_false, not_false_eq_true, if_true, if_false, eq_self, ma_b0, Bool.false_eq_true, Bool.true_eq_false, reduceCtorEq], ma_q_r h, by simp only [f_285, if_pos (mi_217 H), e3, Option.bind_some, if_pos (mi_217 B.1), m_201 B.1 B.2.1 O, qm, v2, i10, i01, true_or, or_true, false_or, or_false, true_and, and_true, and_false, false_and, not_true_eq_false, not_false_eq_true, if_true, if_false, eq_self, ma_b0, Bool.false_eq_true, Bool.true_eq_false, reduceCtorEq], ma_q_t hq q3⟩
end
