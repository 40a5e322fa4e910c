/-! Queries: both sides answer alike. -/
theorem sp_pk_le {K : ma_K} (O : ma_OK K) (to : Nat → Nat) (b : Nat) : sp_pk K to b ≤ 6 := by
  have := ma_fo_inv (g := fun m a => if a.2 < sp_nv K to b m then (m, sp_nv K to b m) else a) (P := fun j a => a.1 ≤ 6) (a0 := (6, 0)) (Nat.le_refl _) (K 0 0) (fun j a hj ha => by
    have := O.1
    split
    · show j ≤ 6; omega
    · exact ha)
  exact this
theorem sp_pk_0 (K : ma_K) (to : Nat → Nat) : sp_pk K to 0 = 6 := by
  have h1 : ∀ m, sp_nv K to 0 m = 0 := fun m => by
    refine ma_fo_inv (g := fun c a => if (0 : Nat).testBit c ∧ sp_vt K c ∧ to c = m then a + 1 else a) (P := fun j a => a = 0) (a0 := 0) rfl (K 0 1) (fun j a hj ha => ?_)
    rw [if_neg (by simp)]
    exact ha
  have := ma_fo_inv (g := fun m a => if a.2 < sp_nv K to 0 m then (m, sp_nv K to 0 m) else a) (P := fun j a => a = (6, 0)) (a0 := (6, 0)) rfl (K 0 0) (fun j a hj ha => by
    rw [if_neg (by rw [h1 j]; omega)]
    exact ha)
  unfold sp_pk
  rw [this]
theorem sp_pp_le {K : ma_K} (O : ma_OK K) (c : Nat) : sp_pp K c ≤ 6 := by
  unfold sp_pp
  split
  · exact sp_pt_le O c 63
  · exact Nat.le_refl _
theorem ma_pl182 : ma_pl 182 := by unfold ma_pl; decide
theorem ma_V_q {h g : pb_HP} {c : Nat} {K : ma_K} (V : ma_V h c K) (q : ma_q h g) (hc : c = 3 ∨ c = 10) : ma_V g c K := ma_V_e V (fun o a b => q.2.2 o (by omega))
section
variable {h : pb_HP} {K : ma_K} {N c : Nat}
theorem ma_ask (H : ma_H h) (V : ma_V h c K) (O : ma_OK K) (hc : c = 3 ∨ c = 10) (hN : 3000 < N) : ∃ g, f_76 N h 182 c = some g ∧ ma_q h g ∧ ma_H g ∧ pb_I g 182 0 = nI (sp_vs K) ∧ ma_P g 182 (K 0 0) (sp_pp K) ∧ ∀ b, b < 64 → f_77 N g 182 (nI b) = some (nI (sp_pk K (sp_to K) b)) := by
  obtain ⟨g, a1, a2, a3, a4⟩ := c_76 H V O ma_pl182 (by omega) hN
  have H2 := ma_H_fr H a2
  refine ⟨g, a1, ma_q_fr a2 (by decide), H2, a4, a3, fun b hb => ?_⟩
  rw [c_77 H2 ma_pl182 O.1 a3 (fun c _ => sp_pp_le O c) hb hN, sp_q_pk O (fun c m hc hm => sp_pp_to c m hc hm) b]
theorem ma_lay (H : ma_H h) (hM : ma_M h K) (O : ma_OK K) (hN : 3000 < N) : ∃ g, f_208 N h 217 = some g ∧ ma_q h g ∧ ma_H g ∧ ma_M g K ∧ ma_to g (sp_to K) ∧ (∀ b, b < 64 → f_209 N g 217 (nI b) = some (nI (sp_pk K (sp_to K) b))) ∧ f_203 N g 217 = some (nI (sp_vs K)) ∧ ma_fr [233] [] h g := by
  obtain ⟨g, a1, a2, a3⟩ := m_208 H hM O hN
  have H2 := ma_H_fr H a2
  have M2 := ma_M_fr hM a2 (by decide) (by decide)
  exact ⟨g, a1, ma_q_fr a2 (by decide), H2, M2, a3, fun b hb => m_209 H2 M2 O a3 (fun c _ => sp_to_le O c) hb hN, m_203 H2 M2 O hN, a2⟩
end
section
variable {h : pb_HP} {N : Nat}
theorem q_picked (I : ma_INV h) (hN : 3000 < N) (x y : Int32) : ma_Q h (f_132 N h 0 x y) (fun g => f_228 N g 217 x y) := by
  have H := I.1
  have hq : ma_q h (pb_pI h 217 0 0) := ma_q_pI (ma_q_r h) (by decide) 0 0
  by_cases hb : ma_at y 64 = true
  · obtain ⟨b, hb3, rfl⟩ := ma_at_ex (by decide) hb
    have z : f_168 (nI b) 0 63 = some 1 := by
      have := ma_in (a := b) (b := 0) (c := 63) (by omega) (by decide) (by decide)
      rw [if_pos (by omega)] at this
      exact this
    have y1 : ¬ nI b < 0 := nI_pos (by omega)
    have y2 : nI b ≤ 63 := (lC63 (by omega)).mpr (by omega)
    rcases ma_W I hN x with ⟨e1, e2⟩ | ⟨c, K, e1, hc, O, OT, V, e2⟩
    · exact ⟨-1, h, pb_pI h 217 0 0, by simp only [f_132, if_pos (mi_0 H), mr_0_0 H, Option.bind_some, if_pos (mi_1 H), e1], ma_q_r h, by simp only [f_228, if_pos (mi_217 H), z, e2 _ hq, Option.bind_some, i10, i01, true_or, or_true, false_or, or_false, true_and, and_true, and_false, false_and, not_true_eq_false, not_false_eq_true, if_true, if_false, eq_self, ma_b0, Bool.false_eq_true, Bool.true_eq_false, reduceCtorEq], hq⟩
    · obtain ⟨g, a1, a2, a3, _, _, a5⟩ := ma_ask H V O hc hN
      have hq2 : ma_q h (pb_pI g 217 0 0) := ma_q_pI a2 (by decide) 0 0
      obtain ⟨g2, e3, q3, B⟩ := e2 _ hq2
      obtain ⟨g3, l1, l2, l3, l4, l5, l6, _⟩ := ma_lay B.1 B.2.1 O hN
      refine ⟨nI (sp_pk K (sp_to K) b), g, g3, ?_, a2, ?_, ma_q_t (ma_q_pI (ma_q_r g) (by decide) 0 0) (ma_q_t q3 l2)⟩
      · simp only [f_132, if_pos (mi_0 H), mr_0_0 H, Option.bind_some, if_pos (mi_1 H), e1, if_neg y1, if_pos y2, mr_0_4 H, if_pos (mi_182 H), a1, if_pos (mi_0 a3), mr_0_4 a3, if_pos (mi_182 a3), a5 b hb3]
      · simp only [f_228, if_pos (mi_217 a3), z, e3, Option.bind_some, if_pos (mi_217 B.1), l1, if_pos (mi_217 l3), l6 b hb3, i10, i01, true_or, or_true, false_or, or_false, true_and, and_true, and_false, false_and, not_true_eq_false, not_false_eq_true, if_true, if_false, eq_self, ma_b0, Bool.false_eq_true, Bool.true_eq_false, reduceCtorEq]
  · have hb : ma_at y 64 = false := by simpa using hb
    have z : f_168 y 0 63 = some 0 := by
      have := m_168 y (n := 64) (by decide)
      rw [hb] at this
      exact this
    have y1 := ma_at_no hb
    rcases ma_W I hN x with ⟨e1, e2⟩ | ⟨c, K, e1, hc, O, OT, V, e2⟩
    · exact ⟨-1, h, pb_pI h 217 0 0, by simp only [f_132, if_pos (mi_0 H), mr_0_0 H, Option.bind_some, if_pos (mi_1 H), e1], ma_q_r h, by simp only [f_228, if_pos (mi_217 H), z, Option.bind_some, i10, i01, true_or, or_true, false_or, or_false, true_and, and_true, and_false, false_and, not_true_eq_false, not_false_eq_true, if_true, if_false, eq_self, ma_b0, Bool.false_eq_true, Bool.true_eq_false, reduceCtorEq], hq⟩
    · refine ⟨-1, h, pb_pI h 217 0 0, ?_, ma_q_r h, by simp only [f_228, if_pos (mi_217 H), z, Option.bind_some, i10, i01, true_or, or_true, false_or, or_false, true_and, and_true, and_false, false_and, not_true_eq_false, not_false_eq_true, if_true, if_false, eq_self, ma_b0, Bool.false_eq_true, Bool.true_eq_false, reduceCtorEq], hq⟩
      simp only [f_132, if_pos (mi_0 H), mr_0_0 H, Option.bind_some, if_pos (mi_1 H), e1]
      by_cases y2 : y < 0
      · rw [if_pos y2]
      · rw [if_neg y2, if_neg]
        intro y3
        rcases y1 with y1 | y1
        · exact y2 y1
        · rw [Int32.le_iff_toInt_le] at y1 y3
          have k1 : (nI 64).toInt = 64 := by decide
          have k2 : (63 : Int32).toInt = 63 := by decide
          omega
theorem q_bench (I : ma_INV h) (hN : 3000 < N) (x y t : Int32) : ma_Q h (f_134 N h 0 x y t) (fun g => f_231 N g 217 x y t) := by
  have H := I.1
  have hq : ma_q h (pb_pI h 217 0 0) := ma_q_pI (ma_q_r h) (by decide) 0 0
  rcases ma_W I hN x with ⟨e1, e2⟩ | ⟨c, K, e1, hc, O, OT, V, e2⟩
  · exact ⟨-1, h, pb_pI h 217 0 0, by simp only [f_134, if_pos (mi_0 H), mr_0_0 H, Option.bind_some, if_pos (mi_1 H), e1], ma_q_r h, by simp only [f_231, if_pos (mi_217 H), e2 _ hq, Option.bind_some, i10, i01, true_or, or_true, false_or, or_false, true_and, and_true, and_false, false_and, not_true_eq_false, not_false_eq_true, if_true, if_false, eq_self, ma_b0, Bool.false_eq_true, Bool.true_eq_false, reduceCtorEq], hq⟩
  · have hO := O.1
    cases qm : ma_at y (K 0 0)
    · obtain ⟨g, e3, q3, B⟩ := e2 _ hq
      exact ⟨-1, h, g, by simp only [f_134, if_pos (mi_0 H), mr_0_0 H, Option.bind_some, if_pos (mi_1 H), e1, if_pos (wv_is H V.1), c_3 H V, qm, i10, i01, true_or, or_true, false_or, or_false, true_and, and_true, and_false, false_and, not_true_eq_false, not_false_eq_true, if_true, if_false, eq_self, ma_b0, Bool.false_eq_true, Bool.true_eq_false, reduceCtorEq], ma_q_r h, by simp only [f_231, if_pos (mi_217 H), e3, Option.bind_some, if_pos (mi_217 B.1), m_200 B.1 B.2.1 O, qm, i10, i01, true_or, or_true, false_or, or_false, true_and, and_true, and_false, false_and, not_true_eq_false, not_false_eq_true, if_true, if_false, eq_self, ma_b0, Bool.false_eq_true, Bool.true_eq_false, reduceCtorEq], ma_q_t hq q3⟩
    · obtain ⟨m, hm, rfl⟩ := ma_at_ex (by have := O.1; omega) qm
      have hm6 : m < 6 := by have := O.1; omega
      obtain ⟨g, a1, a2, a3, a4, _, a5⟩ := ma_ask H V O hc hN
      have hq2 : ma_q h (pb_pI g 217 0 0) := ma_q_pI a2 (by decide) 0 0
      obtain ⟨g2, e3, q3, B⟩ := e2 _ hq2
      obtain ⟨g3, l1, l2, l3, l4, l5, l6, l7, _⟩ := ma_lay B.1 B.2.1 O hN
      have hv := sp_vs_lt O
      have hpk := fun b => sp_pk_le O (sp_to K) b
      have is5 := mi_182 a3
      have z1 := c_79 is5 hv a4 a5 hpk hm6 hN
      have z2 := m_230l l3 hv l6 hpk hm6 hN true
      have hle := sp_bg_le (sp_pk K (sp_to K)) (sp_vs K) m true
      have z3 : f_230 N g2 217 (nI m) 1 = some (mI (sp_bg (sp_pk K (sp_to K)) (sp_vs K) m true), g3) := by
        simp only [f_230, if_pos (mi_217 B.1), l1, Option.bind_some, if_pos (mi_217 l3), l7]
        simp only [Bool.false_eq_true, if_true, if_false] at z2
        rw [z2]
        rfl
      refine ⟨if sp_bg (sp_pk K (sp_to K)) (sp_vs K) m true = 0 then -1 else if t = 0 then nI (sp_on (sp_bg (sp_pk K (sp_to K)) (sp_vs K) m true - 1)) else mI (sp_bg (sp_pk K (sp_to K)) (sp_vs K) m true), g, g3, ?_, a2, ?_, ma_q_t (ma_q_pI (ma_q_r g) (by decide) 0 0) (ma_q_t q3 l2)⟩
      · simp only [f_134, if_pos (mi_0 H), mr_0_0 H, Option.bind_some, if_pos (mi_1 H), e1, if_pos (wv_is H V.1), c_3 H V, qm, mr_0_4 H, if_pos (mi_182 H), a1, if_pos (mi_0 a3), mr_0_4 a3, if_pos (mi_182 a3), z1, c_164m hle, i10, i01, true_or, or_true, false_or, or_false, true_and, and_true, and_false, false_and, not_true_eq_false, not_false_eq_true, if_true, if_false, eq_self, ma_b0, Bool.false_eq_true, Bool.true_eq_false, reduceCtorEq]
      · simp only [f_231, if_pos (mi_217 a3), e3, Option.bind_some, if_pos (mi_217 B.1), m_200 B.1 B.2.1 O, qm, l1, if_pos (mi_217 l3), l7, z3, mE _ (show sp_bg (sp_pk K (sp_to K)) (sp_vs K) m true < 2 ^ 31 by omega), i10, i01, true_or, or_true, false_or, or_false, true_and, and_true, and_false, false_and, not_true_eq_false, not_false_eq_true, if_true, if_false, eq_self, ma_b0, Bool.false_eq_true, Bool.true_eq_false, reduceCtorEq]
        by_cases q : sp_bg (sp_pk K (sp_to K)) (sp_vs K) m true = 0
        · simp only [q, if_true, mI_0]
        · rw [if_neg q, if_neg q, m_172m (by omega) hle hN]
          by_cases q2 : t = 0
          · simp only [q2, if_true, Option.bind_some]
          · simp only [q2, if_false]
theorem q_fewest (I : ma_INV h) (hN : 3000 < N) (x y t : Int32) : ma_Q h (f_157 N h 0 x y t) (fun g => f_294 N g 217 x y t) := by
  have H := I.1
  have hq : ma_q h (pb_pI h 217 0 0) := ma_q_pI (ma_q_r h) (by decide) 0 0
  rcases ma_W I hN x with ⟨e1, e2⟩ | ⟨c, K, e1, hc, O, OT, V, e2⟩
  · exact ⟨-1, h, pb_pI h 217 0 0, by simp only [f_157, if_pos (mi_0 H), mr_0_0 H, Option.bind_some, if_pos (mi_1 H), e1], ma_q_r h, by simp only [f_294, if_pos (mi_217 H), e2 _ hq, Option.bind_some, i10, i01, true_or, or_true, false_or, or_false, true_and, and_true, and_false, false_and, not_true_eq_false, not_false_eq_true, if_true, if_false, eq_self, ma_b0, Bool.false_eq_true, Bool.true_eq_false, reduceCtorEq], hq⟩
  · have hO := O.1
    cases qm : ma_at y (K 0 0)
    · obtain ⟨g, e3, q3, B⟩ := e2 _ hq
      exact ⟨-1, h, g, by simp only [f_157, if_pos (mi_0 H), mr_0_0 H, Option.bind_some, if_pos (mi_1 H), e1, if_pos (wv_is H V.1), c_3 H V, qm, i10, i01, true_or, or_true, false_or, or_false, true_and, and_true, and_false, false_and, not_true_eq_false, not_false_eq_true, if_true, if_false, eq_self, ma_b0, Bool.false_eq_true, Bool.true_eq_false, reduceCtorEq], ma_q_r h, by simp only [f_294, if_pos (mi_217 H), e3, Option.bind_some, if_pos (mi_217 B.1), m_200 B.1 B.2.1 O, qm, i10, i01, true_or, or_true, false_or, or_false, true_and, and_true, and_false, false_and, not_true_eq_false, not_false_eq_true, if_true, if_false, eq_self, ma_b0, Bool.false_eq_true, Bool.true_eq_false, reduceCtorEq], ma_q_t hq q3⟩
    · obtain ⟨m, hm, rfl⟩ := ma_at_ex (by have := O.1; omega) qm
      have hm6 : m < 6 := by have := O.1; omega
      obtain ⟨g, a1, a2, a3, a4, _, a5⟩ := ma_ask H V O hc hN
      have hq2 : ma_q h (pb_pI g 217 0 0) := ma_q_pI a2 (by decide) 0 0
      obtain ⟨g2, e3, q3, B⟩ := e2 _ hq2
      obtain ⟨g3, l1, l2, l3, l4, l5, l6, l7, _⟩ := ma_lay B.1 B.2.1 O hN
      have hv := sp_vs_lt O
      have hpk := fun b => sp_pk_le O (sp_to K) b
      have is5 := mi_182 a3
      have z1 := c_80 is5 hv a4 a5 hpk hm6 hN
      have z2 := m_230l l3 hv l6 hpk hm6 hN false
      have hle := sp_bg_le (sp_pk K (sp_to K)) (sp_vs K) m false
      have z3 : f_230 N g2 217 (nI m) 0 = some (mI (sp_bg (sp_pk K (sp_to K)) (sp_vs K) m false), g3) := by
        simp only [f_230, if_pos (mi_217 B.1), l1, Option.bind_some, if_pos (mi_217 l3), l7]
        simp only [Bool.false_eq_true, if_true, if_false] at z2
        rw [z2]
        rfl
      refine ⟨if sp_bg (sp_pk K (sp_to K)) (sp_vs K) m false = 0 then -1 else if t = 0 then nI (sp_on (sp_bg (sp_pk K (sp_to K)) (sp_vs K) m false - 1)) else mI (sp_bg (sp_pk K (sp_to K)) (sp_vs K) m false), g, g3, ?_, a2, ?_, ma_q_t (ma_q_pI (ma_q_r g) (by decide) 0 0) (ma_q_t q3 l2)⟩
      · simp only [f_157, if_pos (mi_0 H), mr_0_0 H, Option.bind_some, if_pos (mi_1 H), e1, if_pos (wv_is H V.1), c_3 H V, qm, mr_0_4 H, if_pos (mi_182 H), a1, if_pos (mi_0 a3), mr_0_4 a3, if_pos (mi_182 a3), z1, c_164m hle, i10, i01, true_or, or_true, false_or, or_false, true_and, and_true, and_false, false_and, not_true_eq_false, not_false_eq_true, if_true, if_false, eq_self, ma_b0, Bool.false_eq_true, Bool.true_eq_false, reduceCtorEq]
      · simp only [f_294, if_pos (mi_217 a3), e3, Option.bind_some, if_pos (mi_217 B.1), m_200 B.1 B.2.1 O, qm, l1, if_pos (mi_217 l3), l7, z3, mE _ (show sp_bg (sp_pk K (sp_to K)) (sp_vs K) m false < 2 ^ 31 by omega), i10, i01, true_or, or_true, false_or, or_false, true_and, and_true, and_false, false_and, not_true_eq_false, not_false_eq_true, if_true, if_false, eq_self, ma_b0, Bool.false_eq_true, Bool.true_eq_false, reduceCtorEq]
        by_cases q : sp_bg (sp_pk K (sp_to K)) (sp_vs K) m false = 0
        · simp only [q, if_true, mI_0]
        · rw [if_neg q, if_neg q, m_172m (by omega) hle hN]
          by_cases q2 : t = 0
          · simp only [q2, if_true, Option.bind_some]
          · simp only [q2, if_false]
theorem q_benches (I : ma_INV h) (hN : 3000 < N) (x y : Int32) : ma_Q h (f_144 N h 0 x y) (fun g => f_271 N g 217 x y) := by
  have H := I.1
  have hq : ma_q h (pb_pI h 217 0 0) := ma_q_pI (ma_q_r h) (by decide) 0 0
  rcases ma_W I hN x with ⟨e1, e2⟩ | ⟨c, K, e1, hc, O, OT, V, e2⟩
  · exact ⟨-1, h, pb_pI h 217 0 0, by simp only [f_144, if_pos (mi_0 H), mr_0_0 H, Option.bind_some, if_pos (mi_1 H), e1], ma_q_r h, by simp only [f_271, if_pos (mi_217 H), e2 _ hq, Option.bind_some, i10, i01, true_or, or_true, false_or, or_false, true_and, and_true, and_false, false_and, not_true_eq_false, not_false_eq_true, if_true, if_false, eq_self, ma_b0, Bool.false_eq_true, Bool.true_eq_false, reduceCtorEq], hq⟩
  · have hO := O.1
    cases qm : ma_at y (K 0 0)
    · obtain ⟨g, e3, q3, B⟩ := e2 _ hq
      exact ⟨-1, h, g, by simp only [f_144, if_pos (mi_0 H), mr_0_0 H, Option.bind_some, if_pos (mi_1 H), e1, if_pos (wv_is H V.1), c_3 H V, qm, i10, i01, true_or, or_true, false_or, or_false, true_and, and_true, and_false, false_and, not_true_eq_false, not_false_eq_true, if_true, if_false, eq_self, ma_b0, Bool.false_eq_true, Bool.true_eq_false, reduceCtorEq], ma_q_r h, by simp only [f_271, if_pos (mi_217 H), e3, Option.bind_some, if_pos (mi_217 B.1), m_200 B.1 B.2.1 O, qm, i10, i01, true_or, or_true, false_or, or_false, true_and, and_true, and_false, false_and, not_true_eq_false, not_false_eq_true, if_true, if_false, eq_self, ma_b0, Bool.false_eq_true, Bool.true_eq_false, reduceCtorEq], ma_q_t hq q3⟩
    · obtain ⟨m, hm, rfl⟩ := ma_at_ex (by have := O.1; omega) qm
      have hm6 : m < 6 := by have := O.1; omega
      obtain ⟨g, a1, a2, a3, a4, _, a5⟩ := ma_ask H V O hc hN
      have hq2 : ma_q h (pb_pI g 217 0 0) := ma_q_pI a2 (by decide) 0 0
      obtain ⟨g2, e3, q3, B⟩ := e2 _ hq2
      obtain ⟨g3, l1, l2, l3, l4, l5, l6, l7, _⟩ := ma_lay B.1 B.2.1 O hN
      have hv := sp_vs_lt O
      have hpk := fun b => sp_pk_le O (sp_to K) b
      have is5 := mi_182 a3
      have z1 := c_81 is5 hv a4 a5 hpk hm6 hN
      have z2 := m_271l l3 hv l6 hpk (sp_pk_0 K _) hm6 hN
      refine ⟨nI (sp_bc (sp_pk K (sp_to K)) (sp_vs K) m), g, g3, ?_, a2, ?_, ma_q_t (ma_q_pI (ma_q_r g) (by decide) 0 0) (ma_q_t q3 l2)⟩
      · simp only [f_144, if_pos (mi_0 H), mr_0_0 H, Option.bind_some, if_pos (mi_1 H), e1, if_pos (wv_is H V.1), c_3 H V, qm, mr_0_4 H, if_pos (mi_182 H), a1, if_pos (mi_0 a3), mr_0_4 a3, if_pos (mi_182 a3), z1, i10, i01, true_or, or_true, false_or, or_false, true_and, and_true, and_false, false_and, not_true_eq_false, not_false_eq_true, if_true, if_false, eq_self, ma_b0, Bool.false_eq_true, Bool.true_eq_false, reduceCtorEq]
      · simp only [f_271, if_pos (mi_217 a3), e3, Option.bind_some, if_pos (mi_217 B.1), m_200 B.1 B.2.1 O, qm, l1, if_pos (mi_217 l3), l7, z2, i10, i01, true_or, or_true, false_or, or_false, true_and, and_true, and_false, false_and, not_true_eq_false, not_false_eq_true, if_true, if_false, eq_self, ma_b0, Bool.false_eq_true, Bool.true_eq_false, reduceCtorEq]
end
