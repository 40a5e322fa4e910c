/-! What would be: later, ban. -/
def sp_34 (K : ma_K) (A B : Nat → Nat) (j : Nat) : ma_K := fun i k => if i = 3 ∧ k < j then A k else if i = 4 ∧ k < j then B k else K i k
theorem sp_34_0 (K : ma_K) (A B : Nat → Nat) : sp_34 K A B 0 = K := by
  funext i k
  show (if i = 3 ∧ k < 0 then _ else if i = 4 ∧ k < 0 then _ else K i k) = K i k
  rw [if_neg (by omega), if_neg (by omega)]
theorem sp_34_3 (K : ma_K) (A B : Nat → Nat) (j k : Nat) : sp_34 K A B j 3 k = if k < j then A k else K 3 k := by
  show (if 3 = 3 ∧ k < j then A k else if 3 = 4 ∧ k < j then B k else K 3 k) = _
  by_cases q : k < j
  · rw [if_pos ⟨rfl, q⟩, if_pos q]
  · rw [if_neg (by omega), if_neg (by omega), if_neg q]
theorem sp_34_4 (K : ma_K) (A B : Nat → Nat) (j k : Nat) : sp_34 K A B j 4 k = if k < j then B k else K 4 k := by
  show (if 4 = 3 ∧ k < j then A k else if 4 = 4 ∧ k < j then B k else K 4 k) = _
  by_cases q : k < j
  · rw [if_neg (by omega), if_pos ⟨rfl, q⟩, if_pos q]
  · rw [if_neg (by omega), if_neg (by omega), if_neg q]
section
variable {h : pb_HP} {K : ma_K} {N c : Nat} {A B : Nat → Nat}
theorem ma_V_34 {j : Nat} (V : ma_V h c (sp_34 K A B j)) : ma_V (pb_pI (pb_pI h (c + 3) j (nI (A j))) (c + 4) j (nI (B j))) c (sp_34 K A B (j + 1)) := by
  refine ⟨V.1, ?_, ?_, fun m hm => ?_, fun m hm => ?_, fun m hm => ?_, fun m hm => ?_, fun m hm => ?_, fun m hm => ?_⟩
  · simp (disch := omega) only [ma_Ik, if_neg]; exact V.2.1
  · simp (disch := omega) only [ma_Ik, if_neg]; exact V.2.2.1
  · simp (disch := omega) only [ma_Ik, if_neg]; exact V.2.2.2.1 m hm
  · simp (disch := omega) only [ma_Ik, if_neg]; exact V.2.2.2.2.1 m hm
  · rw [ma_Ik, if_neg (by omega), ma_Ik, if_pos rfl, sp_34_3]
    have e0 := V.2.2.2.2.2.1 m hm
    rw [sp_34_3] at e0
    by_cases e : m = j
    · rw [if_pos e, if_pos (by omega), e]
    · rw [if_neg e, e0]
      by_cases l : m < j
      · rw [if_pos l, if_pos (by omega)]
      · rw [if_neg l, if_neg (by omega)]
  · rw [ma_Ik, if_pos rfl, sp_34_4]
    have e0 := V.2.2.2.2.2.2.1 m hm
    rw [sp_34_4] at e0
    by_cases e : m = j
    · rw [if_pos e, if_pos (by omega), e]
    · rw [if_neg e, ma_Ik, if_neg (by omega), e0]
      by_cases l : m < j
      · rw [if_pos l, if_pos (by omega)]
      · rw [if_neg l, if_neg (by omega)]
  · simp (disch := omega) only [ma_Ik, if_neg]; exact V.2.2.2.2.2.2.2.1 m hm
  · simp (disch := omega) only [ma_Ik, if_neg]; exact V.2.2.2.2.2.2.2.2 m hm
theorem ma_M_34 {j : Nat} (M : ma_M h (sp_34 K A B j)) : ma_M (pb_pI (pb_pI h 229 j (nI (A j))) 230 j (nI (B j))) (sp_34 K A B (j + 1)) := by
  refine ⟨?_, ?_, fun m hm => ?_, fun m hm => ?_, fun m hm => ?_, fun m hm => ?_, fun m hm => ?_⟩
  · simp (disch := omega) only [ma_Ik, if_neg]; exact M.1
  · simp (disch := omega) only [ma_Ik, if_neg]; exact M.2.1
  · simp (disch := omega) only [ma_Ik, if_neg]; exact M.2.2.1 m hm
  · rw [ma_Ik, if_neg (by omega), ma_Ik, if_pos rfl, sp_34_3]
    have e0 := M.2.2.2.1 m hm
    rw [sp_34_3] at e0
    by_cases e : m = j
    · rw [if_pos e, if_pos (by omega), e]
    · rw [if_neg e, e0]
      by_cases l : m < j
      · rw [if_pos l, if_pos (by omega)]
      · rw [if_neg l, if_neg (by omega)]
  · rw [ma_Ik, if_pos rfl, sp_34_4]
    have e0 := M.2.2.2.2.1 m hm
    rw [sp_34_4] at e0
    by_cases e : m = j
    · rw [if_pos e, if_pos (by omega), e]
    · rw [if_neg e, ma_Ik, if_neg (by omega), e0]
      by_cases l : m < j
      · rw [if_pos l, if_pos (by omega)]
      · rw [if_neg l, if_neg (by omega)]
  · simp (disch := omega) only [ma_Ik, if_neg]; exact M.2.2.2.2.2.1 m hm
  · simp (disch := omega) only [ma_Ik, if_neg]; exact M.2.2.2.2.2.2 m hm
theorem ma_decn {v n : Nat} (hv : v < 2 ^ 30) (hn : n < 2 ^ 30) : (if (0 : Int32) < nI v - nI n then nI v - nI n else 0) = nI (v - n) := by
  by_cases q : n ≤ v
  · rw [pk_sub q]
    by_cases z : 0 < v - n
    · rw [if_pos ((lB0 (by omega)).mpr z)]
    · rw [if_neg ((not_congr (lB0 (by omega))).mpr z), show v - n = 0 by omega]; rfl
  · rw [if_neg, show v - n = 0 by omega]
    · rfl
    · intro z
      rw [Int32.lt_iff_toInt_lt, pk_sub_toInt hv hn] at z
      have : (0 : Int32).toInt = 0 := by decide
      omega
theorem m_170n {v n : Nat} (hv : v < 2 ^ 30) (hn : n < 2 ^ 30) : f_170 0 (nI v - nI n) = some (nI (v - n)) := by
  unfold f_170
  by_cases q : n ≤ v
  · rw [pk_sub q, if_pos (nI_pos' (by omega))]
  · rw [if_neg, show v - n = 0 by omega]
    · rfl
    · intro z
      rw [Int32.le_iff_toInt_le, pk_sub_toInt hv hn] at z
      have : (0 : Int32).toInt = 0 := by decide
      omega
def sp_la (K : ma_K) (n : Nat) : ma_K := sp_34 K (fun k => K 3 k + n) (fun k => K 4 k - n) (K 0 1)
theorem ma_OK_la (O : ma_OK K) (OT : ma_OT K) {n : Nat} (hn : n ≤ 30) : ma_OK (sp_la K n) := by
  refine ⟨O.1, O.2.1, fun k => ?_, O.2.2.2.1, O.2.2.2.2⟩
  have b := O.2.2.1 k
  have t := OT k
  refine ⟨b.1, b.2.1, ?_, ?_, b.2.2.2.2⟩
  · unfold sp_la; rw [sp_34_3]; split <;> omega
  · unfold sp_la; rw [sp_34_4]; split <;> omega
theorem c_111 (H : ma_H h) (V : ma_V h c K) (O : ma_OK K) (OT : ma_OT K) (hc : c = 3 ∨ c = 10) {n : Nat} (hn : n ≤ 30) (hN : 3000 < N) : ∃ g, f_111 N h 184 c (nI n) = some g ∧ ma_fr ma_tL [] h g ∧ ma_V g 185 (sp_la K n) := by
  have hch := O.2.1
  obtain ⟨g0, b1, b2, b3⟩ := c_2 H V O ma_ct185 (by omega)
  have H0 := ma_H_fr H b2
  have hl : ∃ e, pb_wl (f_111_10s N 184 (nI n)) N (0, g0) = some e ∧ (ma_fr [188, 189] [] g0 e ∧ ma_V e 185 (sp_la K n)) := by
    refine ma_lh (fun j s => s.1 = nI j ∧ ma_fr [188, 189] [] g0 s.2 ∧ ma_V s.2 185 (sp_34 K (fun k => K 3 k + n) (fun k => K 4 k - n) j)) _ (K 0 1) 0 N _ (by omega) (by omega) ⟨rfl, ma_fr_r _ _ _, by rw [sp_34_0]; exact b3⟩ ?_ ?_
    · rintro j ⟨i, g⟩ _ hj ⟨hi, hf, hV⟩
      dsimp only at hi hf hV
      subst hi
      left
      have H2 := ma_H_fr H0 hf
      have n1 : pb_I g 185 1 = nI (K 0 1) := hV.2.2.1
      have b := O.2.2.1 j
      have x3 : pb_I g 188 j = nI (K 3 j) := by
        have := hV.2.2.2.2.2.1 j hj
        rw [sp_34_3, if_neg (by omega)] at this
        exact this
      have x4 : pb_I g 189 j = nI (K 4 j) := by
        have := hV.2.2.2.2.2.2.1 j hj
        rw [sp_34_4, if_neg (by omega)] at this
        exact this
      have x5 : pb_I (pb_pI g 188 j (nI (K 3 j + n))) 189 j = nI (K 4 j) := by rw [ma_Ik, if_neg (by decide)]; exact x4
      refine ⟨(nI (j + 1), pb_pI (pb_pI g 188 j (nI (K 3 j + n))) 189 j (nI (K 4 j - n))), ?_, rfl, ma_fr_pI (ma_fr_pI hf (.inl (by decide)) _) (.inl (by decide)) _, ma_V_34 hV⟩
      unfold f_111_10s
      dsimp only
      rw [if_pos (mi_184 H2), mr_184_0 H2, Option.bind_some, if_pos (mi_185 H2), n1, if_neg (nI_ge hj (by omega)), mr_185_4 H2, Option.bind_some, if_pos (mx_188 H2 (by omega)), mr_185_5 H2, Option.bind_some, if_pos (mx_189 H2 (by omega)), nI_clamp (by omega), x3, nI_add, x5, ma_decn (by omega) (by omega), nI_1]
      rfl
    · rintro ⟨i, g⟩ ⟨hi, hf, hV⟩
      dsimp only at hi hf hV
      subst hi
      have H2 := ma_H_fr H0 hf
      have n1 : pb_I g 185 1 = nI (K 0 1) := hV.2.2.1
      refine ⟨g, ?_, hf, hV⟩
      unfold f_111_10s
      dsimp only
      rw [if_pos (mi_184 H2), mr_184_0 H2, Option.bind_some, if_pos (mi_185 H2), n1, if_pos (nI_le (Nat.le_refl _) (by omega))]
  obtain ⟨g, a1, a2, a3⟩ := hl
  refine ⟨g, ?_, ma_fr_t (ma_fr_w b2 (by decide) (by decide)) (ma_fr_w a2 (by decide) (by decide)), a3⟩
  simp only [f_111, if_pos (mi_184 H), mr_184_0 H, Option.bind_some, if_pos (mi_185 H), b1, a1]
theorem m_293l (H : ma_H h) (M : ma_M h K) (O : ma_OK K) (OT : ma_OT K) {n : Nat} (hn : n ≤ 30) (hN : 3000 < N) (t : Int32) : ∃ g, pb_wl (f_293_28s N 217 (nI n) t) N (0, h) = some g ∧ ma_fr [229, 230] [] h g ∧ ma_M g (sp_la K n) := by
  have hch := O.2.1
  refine ma_lh (fun j s => s.1 = nI j ∧ ma_fr [229, 230] [] h s.2 ∧ ma_M s.2 (sp_34 K (fun k => K 3 k + n) (fun k => K 4 k - n) j)) _ (K 0 1) 0 N _ (by omega) (by omega) ⟨rfl, ma_fr_r _ _ _, by rw [sp_34_0]; exact M⟩ ?_ ?_
  · rintro j ⟨i, g⟩ _ hj ⟨hi, hf, hM⟩
    dsimp only at hi hf hM
    subst hi
    left
    have H2 := ma_H_fr H hf
    have n1 : pb_I g 217 25 = nI (K 0 1) := hM.2.1
    have b := O.2.2.1 j
    have tt := OT j
    have x3 : pb_I g 229 j = nI (K 3 j) := by
      have := hM.2.2.2.1 j (by omega)
      rw [sp_34_3, if_neg (by omega)] at this
      exact this
    have x4 : pb_I g 230 j = nI (K 4 j) := by
      have := hM.2.2.2.2.1 j (by omega)
      rw [sp_34_4, if_neg (by omega)] at this
      exact this
    have x5 : pb_I (pb_pI g 229 j (nI (K 3 j + n))) 230 j = nI (K 4 j) := by rw [ma_Ik, if_neg (by decide)]; exact x4
    have y3 : f_171 99 (nI (K 3 j + n)) = some (nI (K 3 j + n)) := by
      have := m_171 (a := 99) (b := K 3 j + n) (by decide) (by omega)
      rw [Nat.min_eq_right (by omega)] at this
      exact this
    refine ⟨(nI (j + 1), pb_pI (pb_pI g 229 j (nI (K 3 j + n))) 230 j (nI (K 4 j - n))), ?_, rfl, ma_fr_pI (ma_fr_pI hf (.inl (by decide)) _) (.inl (by decide)) _, ma_M_34 hM⟩
    simp only [f_293_28s, if_pos (mi_217 H2), n1, if_neg (nI_ge hj (show K 0 1 < 2 ^ 31 by omega)), mr_217_31 H2, Option.bind_some, if_pos (mx_229 H2 (show j < 6 by omega)), nI_clamp (show j < 2 ^ 31 by omega), x3, nI_add, y3, mr_217_32 H2, if_pos (mx_230 H2 (show j < 6 by omega)), x5, m_170n (show K 4 j < 2 ^ 30 by omega) (show n < 2 ^ 30 by omega), nI_1]
  · rintro ⟨i, g⟩ ⟨hi, hf, hM⟩
    dsimp only at hi hf hM
    subst hi
    have H2 := ma_H_fr H hf
    have n1 : pb_I g 217 25 = nI (K 0 1) := hM.2.1
    refine ⟨g, ?_, hf, hM⟩
    simp only [f_293_28s, if_pos (mi_217 H2), n1, if_pos (nI_le (Nat.le_refl _) (show K 0 1 < 2 ^ 31 by omega))]
theorem q_later (I : ma_INV h) (hN : 3000 < N) (x z t : Int32) : ma_Q h (f_156 N h 0 x z t) (fun g => f_293 N g 217 x z t) := by
  have H := I.1
  have hq : ma_q h (pb_pI h 217 0 0) := ma_q_pI (ma_q_r h) (by decide) 0 0
  have z168 := m_168z z (n := 30) (y := 30) rfl (by decide)
  cases hz : ma_at z (30 + 1)
  · rw [hz] at z168
    rcases ma_W I hN x with ⟨e1, e2⟩ | ⟨c, K, e1, hc, O, OT, V, e2⟩
    · exact ⟨-1, h, pb_pI h 217 0 0, by simp only [f_156, if_pos (mi_0 H), mr_0_0 H, Option.bind_some, if_pos (mi_1 H), e1], ma_q_r h, by simp only [f_293, if_pos (mi_217 H), z168, Option.bind_some, i10, i01, true_or, or_true, false_or, or_false, true_and, and_true, and_false, false_and, not_true_eq_false, not_false_eq_true, if_true, if_false, eq_self, ma_b0, Bool.false_eq_true, Bool.true_eq_false, reduceCtorEq], hq⟩
    · refine ⟨-1, h, pb_pI h 217 0 0, ?_, ma_q_r h, by simp only [f_293, if_pos (mi_217 H), z168, Option.bind_some, i10, i01, true_or, or_true, false_or, or_false, true_and, and_true, and_false, false_and, not_true_eq_false, not_false_eq_true, if_true, if_false, eq_self, ma_b0, Bool.false_eq_true, Bool.true_eq_false, reduceCtorEq], hq⟩
      by_cases z1 : z < 0
      · simp only [f_156, if_pos (mi_0 H), mr_0_0 H, Option.bind_some, if_pos (mi_1 H), e1, if_pos z1]
      · have z2 : ¬ z ≤ 30 := by
          rcases ma_at_no hz with q | q
          · exact absurd q z1
          · rw [Int32.le_iff_toInt_le] at q ⊢
            have k1 : (nI (30 + 1)).toInt = 31 := by decide
            have k2 : (30 : Int32).toInt = 30 := by decide
            omega
        simp only [f_156, if_pos (mi_0 H), mr_0_0 H, Option.bind_some, if_pos (mi_1 H), e1, if_neg z1, if_neg z2]
  · rw [hz] at z168
    obtain ⟨n, hn, rfl⟩ := ma_at_ex (by decide) hz
    have z1 : ¬ nI n < 0 := nI_pos (by omega)
    have z2 : nI n ≤ 30 := (lC30 (by omega)).mpr (by omega)
    rcases ma_W I hN x with ⟨e1, e2⟩ | ⟨c, K, e1, hc, O, OT, V, e2⟩
    · exact ⟨-1, h, pb_pI h 217 0 0, by simp only [f_156, if_pos (mi_0 H), mr_0_0 H, Option.bind_some, if_pos (mi_1 H), e1], ma_q_r h, by simp only [f_293, if_pos (mi_217 H), z168, e2 _ hq, Option.bind_some, i10, i01, true_or, or_true, false_or, or_false, true_and, and_true, and_false, false_and, not_true_eq_false, not_false_eq_true, if_true, if_false, eq_self, ma_b0, Bool.false_eq_true, Bool.true_eq_false, reduceCtorEq], hq⟩
    · have O2 := ma_OK_la O OT (show n ≤ 30 by omega)
      obtain ⟨g1, b1, b2, b3⟩ := c_111 (N := N) H V O OT hc (show n ≤ 30 by omega) hN
      have H1 := ma_H_fr H b2
      by_cases qt : t = 0
      · obtain ⟨g2, b4, b5⟩ := c_110 (N := N) H1 b3 O2 hN
        have qg : ma_q h g2 := ma_q_t (ma_tq b2) (ma_q_fr b5 (by decide))
        obtain ⟨g4, e3, q3, B⟩ := e2 _ (ma_q_pI qg (by decide : ¬ ma_ps 217) 0 0)
        obtain ⟨g5, m1, m2, m3⟩ := m_293l (N := N) B.1 B.2.1 O OT (show n ≤ 30 by omega) hN t
        have H5 := ma_H_fr B.1 m2
        refine ⟨nI (sp_vs (sp_la K n)), g2, g5, ?_, qg, ?_, ma_q_t (ma_q_pI (ma_q_r g2) (by decide) 0 0) (ma_q_t q3 (ma_q_fr m2 (by decide)))⟩
        · simp only [f_156, if_pos (mi_0 H), mr_0_0 H, Option.bind_some, if_pos (mi_1 H), e1, if_neg z1, if_pos z2, mr_0_5 H, if_pos (mi_184 H), b1, if_pos qt, if_pos (mi_0 H1), mr_0_5 H1, if_pos (mi_184 H1), b4]
        · simp only [f_293, if_pos (mi_217 (ma_H_q H qg)), z168, e3, Option.bind_some, i10, i01, true_or, or_true, false_or, or_false, true_and, and_true, and_false, false_and, not_true_eq_false, not_false_eq_true, if_true, if_false, eq_self, ma_b0, Bool.false_eq_true, Bool.true_eq_false, reduceCtorEq, m1, if_pos qt, if_pos (mi_217 H5), m_203 H5 m3 O2 hN]
      · obtain ⟨g2, b4, b5⟩ := c_109 (N := N) H1 b3 O2 hN
        have qg : ma_q h g2 := ma_q_t (ma_tq b2) (ma_q_fr b5 (by decide))
        obtain ⟨g4, e3, q3, B⟩ := e2 _ (ma_q_pI qg (by decide : ¬ ma_ps 217) 0 0)
        obtain ⟨g5, m1, m2, m3⟩ := m_293l (N := N) B.1 B.2.1 O OT (show n ≤ 30 by omega) hN t
        have H5 := ma_H_fr B.1 m2
        obtain ⟨g6, m4, m5⟩ := m_210p (N := N) H5 m3 O2 hN
        refine ⟨nI (sp_p63 (sp_la K n)), g2, g6, ?_, qg, ?_, ma_q_t (ma_q_pI (ma_q_r g2) (by decide) 0 0) (ma_q_t q3 (ma_q_t (ma_q_fr m2 (by decide)) (ma_q_fr m5 (by decide))))⟩
        · simp only [f_156, if_pos (mi_0 H), mr_0_0 H, Option.bind_some, if_pos (mi_1 H), e1, if_neg z1, if_pos z2, mr_0_5 H, if_pos (mi_184 H), b1, if_neg qt, if_pos (mi_0 H1), mr_0_5 H1, if_pos (mi_184 H1), b4]
        · simp only [f_293, if_pos (mi_217 (ma_H_q H qg)), z168, e3, Option.bind_some, i10, i01, true_or, or_true, false_or, or_false, true_and, and_true, and_false, false_and, not_true_eq_false, not_false_eq_true, if_true, if_false, eq_self, ma_b0, Bool.false_eq_true, Bool.true_eq_false, reduceCtorEq, m1, if_neg qt, if_pos (mi_217 H5), m4]
/-! ban -/
def sp_bK (K : ma_K) (t j : Nat) : ma_K := fun i k => if i = 2 ∧ k < j then sp_cl (K 2 k) t else K i k
theorem sp_bK_2 (K : ma_K) (t j k : Nat) : sp_bK K t j 2 k = if k < j then sp_cl (K 2 k) t else K 2 k := by
  show (if 2 = 2 ∧ k < j then _ else _) = _
  by_cases q : k < j
  · rw [if_pos ⟨rfl, q⟩, if_pos q]
  · rw [if_neg (by omega), if_neg q]
theorem sp_bK_0 (K : ma_K) (t : Nat) : sp_bK K t 0 = K := by
  funext i k
  show (if i = 2 ∧ k < 0 then _ else K i k) = K i k
  rw [if_neg (by omega)]
theorem sp_bK_s (K : ma_K) (t j : Nat) : sp_up (sp_bK K t j) 2 j (sp_cl (K 2 j) t) = sp_bK K t (j + 1) := by
  funext i k
  by_cases e : i = 2 ∧ k = j
  · rw [e.1, e.2, sp_up_s, sp_bK_2, if_pos (by omega)]
  · rw [sp_up_n (by omega)]
    show (if i = 2 ∧ k < j then _ else K i k) = (if i = 2 ∧ k < j + 1 then _ else K i k)
    by_cases l : i = 2 ∧ k < j
    · rw [if_pos l, if_pos (by omega)]
    · rw [if_neg l, if_neg (by omega)]
theorem ma_OK_bK (O : ma_OK K) (t j : Nat) : ma_OK (sp_bK K t j) := by
  refine ⟨O.1, O.2.1, fun k => ?_, fun m hm => ?_, O.2.2.2.2⟩
  · have b := O.2.2.1 k
    refine ⟨b.1, ?_, b.2.2⟩
    rw [sp_bK_2]
    split
    · exact Nat.lt_of_le_of_lt (sp_cl_le _ _) b.2.1
    · exact b.2.1
  · have := O.2.2.2.1 m hm
    rw [sp_bK_2, this]
    split
    · exact Nat.le_zero.mp (sp_cl_le 0 t)
    · rfl
def sp_mv (K : ma_K) (t : Nat) : Nat := ma_fo (fun c a => if sp_pt (sp_bK K t (K 0 0)) c 63 = sp_pt K c 63 then a else a + 1) (K 0 1) 0
theorem sp_mv_le (O : ma_OK K) (t : Nat) : sp_mv K t ≤ 6 := by
  have := ma_fo_inv (g := fun c a => if sp_pt (sp_bK K t (K 0 0)) c 63 = sp_pt K c 63 then a else a + 1) (P := fun j a => a ≤ j) (a0 := 0) (Nat.le_refl _) (K 0 1) (fun j a hj ha => by split <;> omega)
  have h := O.2.1
  unfold sp_mv; omega
/-- most + 1, which -/
def sp_bng (K : ma_K) (t : Nat) (a : Nat × Nat) : Nat × Nat := if a.1 ≤ sp_mv K t then (sp_mv K t + 1, t) else a
def sp_bn (K : ma_K) : Nat × Nat := ma_fo (sp_bng K) 6 (0, 0)
theorem c_113l (H : ma_H h) (V : ma_V h c K) (O : ma_OK K) (hc : c = 3 ∨ c = 10) (hN : 3000 < N) (y : Int32) : ∃ g, pb_wl (f_113_8s N 184 c y) N (-1, 0, 0, h) = some (mI (sp_bn K).1, nI (sp_bn K).2, g) ∧ ma_fr ma_tL [] h g := by
  have hme := O.1
  have hch := O.2.1
  have hl : ∃ e, pb_wl (f_113_8s N 184 c y) N (-1, 0, 0, h) = some e ∧ (e.1 = mI (sp_bn K).1 ∧ e.2.1 = nI (sp_bn K).2 ∧ ma_fr ma_tL [] h e.2.2) := by
    refine ma_lh (fun j s => s.1 = mI (ma_fo (sp_bng K) j (0, 0)).1 ∧ s.2.1 = nI (ma_fo (sp_bng K) j (0, 0)).2 ∧ s.2.2.1 = nI j ∧ ma_fr ma_tL [] h s.2.2.2 ∧ (ma_fo (sp_bng K) j (0, 0)).1 ≤ 7) _ 6 0 N _ (by omega) (by omega) ⟨rfl, rfl, rfl, ma_fr_r _ _ _, Nat.zero_le 7⟩ ?_ ?_
    · rintro j ⟨x1, x2, i, g⟩ _ hj ⟨h1, h2, hi, hf, hb⟩
      dsimp only at h1 h2 hi hf
      subst h1; subst h2; subst hi
      left
      obtain ⟨a, ha⟩ : ∃ a, a = ma_fo (sp_bng K) j (0, 0) := ⟨_, rfl⟩
      rw [← ha] at hb ⊢
      have H2 := ma_H_fr H hf
      have V2 : ma_V g c K := ma_V_fr V hf (fun o a b => ⟨by simp; omega, by simp⟩)
      obtain ⟨g0, b1, b2, b3⟩ := c_2 H2 V2 O ma_ct185 (by omega)
      have H0 := ma_H_fr H2 b2
      have l1 : ∃ e, pb_wl (f_113_26s N 184 c y (mI a.1) (nI a.2) (nI j)) N (0, g0) = some e ∧ (ma_fr [187] [] g0 e ∧ ma_V e 185 (sp_bK K j (K 0 0))) := by
        refine ma_lh (fun k s => s.1 = nI k ∧ ma_fr [187] [] g0 s.2 ∧ ma_V s.2 185 (sp_bK K j k)) _ (K 0 0) 0 N _ (by omega) (by omega) ⟨rfl, ma_fr_r _ _ _, by rw [sp_bK_0]; exact b3⟩ ?_ ?_
        · rintro k ⟨i, g3⟩ _ hk ⟨hi, hf3, hV⟩
          dsimp only at hi hf3 hV
          subst hi
          left
          have H3 := ma_H_fr H0 hf3
          have n0 : pb_I g3 185 0 = nI (K 0 0) := hV.2.1
          have x2 : pb_I g3 187 k = nI (K 2 k) := by
            have := hV.2.2.2.2.1 k (by omega)
            rw [sp_bK_2, if_neg (by omega)] at this
            exact this
          refine ⟨(nI (k + 1), pb_pI g3 187 k (nI (sp_cl (K 2 k) j))), ?_, rfl, ma_fr_pI hf3 (.inl (by decide)) _, by have := ma_V_p2 hV k (sp_cl (K 2 k) j); rw [sp_bK_s] at this; exact this⟩
          simp only [f_113_26s, if_pos (mi_184 H3), mr_184_0 H3, Option.bind_some, if_pos (mi_185 H3), n0, if_neg (nI_ge hk (show K 0 0 < 2 ^ 31 by omega)), mr_185_3 H3, if_pos (mx_187 H3 (show k < 6 by omega)), nI_clamp (show k < 2 ^ 31 by omega), x2, ma_shl (show j < 31 by omega), ma_clr (O.2.2.1 k).2.1 hj, nI_1]
        · rintro ⟨i, g3⟩ ⟨hi, hf3, hV⟩
          dsimp only at hi hf3 hV
          subst hi
          have H3 := ma_H_fr H0 hf3
          have n0 : pb_I g3 185 0 = nI (K 0 0) := hV.2.1
          refine ⟨g3, ?_, hf3, hV⟩
          simp only [f_113_26s, if_pos (mi_184 H3), mr_184_0 H3, Option.bind_some, if_pos (mi_185 H3), n0, if_pos (nI_le (Nat.le_refl _) (show K 0 0 < 2 ^ 31 by omega))]
      obtain ⟨g4, c1, c2, c3⟩ := l1
      have H4 := ma_H_fr H0 c2
      have f4 : ma_fr ma_tL [] h g4 := ma_fr_t hf (ma_fr_t (ma_fr_w b2 (by decide) (by decide)) (ma_fr_w c2 (by decide) (by decide)))
      have V4 : ma_V g4 c K := ma_V_fr V f4 (fun o a b => ⟨by simp; omega, by simp⟩)
      have OB := ma_OK_bK O j (K 0 0)
      have l2 : pb_wl (f_113_69s N g4 184 c y (mI a.1) (nI a.2) (nI j)) N (0, 0) = some (nI (sp_mv K j)) := by
        refine ma_lq (fun k s => (nI s, nI k)) (fun c a => if sp_pt (sp_bK K j (K 0 0)) c 63 = sp_pt K c 63 then a else a + 1) (K 0 1) (by omega) rfl (fun k s hk => ?_) ?_
        · have p1 := sp_pt_le OB k 63
          have p2 := sp_pt_le O k 63
          have d1 : f_11 N g4 185 (nI k) 63 = some (nI (sp_pt (sp_bK K j (K 0 0)) k 63)) := c_11 H4 c3 OB (s := 63) (show k < 6 by omega) (by decide) hN
          have d2 : f_11 N g4 c (nI k) 63 = some (nI (sp_pt K k 63)) := c_11 H4 V4 O (s := 63) (show k < 6 by omega) (by decide) hN
          have eq : (nI (sp_pt (sp_bK K j (K 0 0)) k 63) = nI (sp_pt K k 63)) = (sp_pt (sp_bK K j (K 0 0)) k 63 = sp_pt K k 63) := propext (nI_eq (by omega) (by omega))
          have n1 : pb_I g4 185 1 = nI (K 0 1) := c3.2.2.1
          simp only [f_113_69s, if_pos (mi_184 H4), mr_184_0 H4, Option.bind_some, if_pos (mi_185 H4), n1, if_neg (nI_ge hk (show K 0 1 < 2 ^ 31 by omega)), d1, if_pos (wv_is H4 V4.1), d2, eq, nI_1]
          split <;> rfl
        · have n1 : pb_I g4 185 1 = nI (K 0 1) := c3.2.2.1
          simp only [f_113_69s, if_pos (mi_184 H4), mr_184_0 H4, Option.bind_some, if_pos (mi_185 H4), n1, if_pos (nI_le (Nat.le_refl _) (show K 0 1 < 2 ^ 31 by omega))]
          rfl
      have hmv := sp_mv_le O j
      have le : (nI (sp_mv K j) ≤ mI a.1) = (sp_mv K j < a.1) := propext (nm_le (by omega) (by omega))
      refine ⟨(mI (sp_bng K j a).1, nI (sp_bng K j a).2, nI (j + 1), g4), ?_, by rw [ma_fo_s, ← ha], by rw [ma_fo_s, ← ha], rfl, f4, ?_⟩
      · unfold f_113_8s
        dsimp only
        rw [if_neg ((not_congr (lA6 (show j < 2 ^ 31 by omega))).mpr (by omega)), if_pos (mi_184 H2), mr_184_0 H2, Option.bind_some, if_pos (mi_185 H2), b1, Option.bind_some, c1, Option.bind_some, l2, Option.bind_some, nI_1]
        unfold sp_bng
        by_cases q : a.1 ≤ sp_mv K j
        · rw [if_pos q, if_neg (fun z => absurd (le ▸ z) (by omega))]
          simp only [mI_s]
        · rw [if_neg q, if_pos (le.symm ▸ (by omega : sp_mv K j < a.1))]
      · rw [ma_fo_s, ← ha]
        unfold sp_bng
        split <;> (try dsimp only) <;> omega
    · rintro ⟨x1, x2, i, g⟩ ⟨h1, h2, hi, hf, hb⟩
      dsimp only at h1 h2 hi hf
      subst h1; subst h2; subst hi
      exact ⟨(mI (sp_bn K).1, nI (sp_bn K).2, g), rfl, rfl, rfl, hf⟩
  obtain ⟨⟨x1, x2, g⟩, a1, a2, a3, a4⟩ := hl
  dsimp only at a2 a3 a4
  rw [a2, a3] at a1
  exact ⟨g, a1, a4⟩
theorem m_236 (H : ma_H h) (O : ma_OK K) (F : ma_of h K) {K1 : ma_K} (M : ma_M h K1) (h1 : ∀ i k, i ≠ 2 → K1 i k = K i k) (h2 : ∀ k, K 0 0 ≤ k → K1 2 k = K 2 k) (hT : ma_to h (sp_to K)) {t : Nat} (ht : t < 6) (hN : 3000 < N) : ∃ g, f_236 N h 217 (nI t) = some (nI (sp_mv K t), g) ∧ ma_fr [228] [] h g ∧ ma_M g (sp_bK K t (K 0 0)) := by
  have hme := O.1
  have hch := O.2.1
  have f2 := (m_of H F).2.1
  have l1 : ∃ e, pb_wl (f_236_4s N 217 (nI t) 0) N (0, h) = some e ∧ (ma_fr [228] [] h e ∧ ∀ k, k < 6 → pb_I e 228 k = nI (sp_bK K t (K 0 0) 2 k)) := by
    refine ma_lh (fun j s => s.1 = nI j ∧ ma_fr [228] [] h s.2 ∧ ∀ k, k < 6 → pb_I s.2 228 k = nI (if k < j then sp_cl (K 2 k) t else K1 2 k)) _ (K 0 0) 0 N _ (by omega) (by omega) ⟨rfl, ma_fr_r _ _ _, fun k hk => by rw [if_neg (by omega)]; exact M.2.2.1 k hk⟩ ?_ ?_
    · rintro j ⟨i, g⟩ _ hj ⟨hi, hf, hv⟩
      dsimp only at hi hf hv
      subst hi
      left
      have H2 := ma_H_fr H hf
      have n0 : pb_I g 217 24 = nI (K 0 0) := by rw [ma_fr_o hf (by decide) (by decide), M.1, h1 0 0 (by decide)]
      have F2 : ma_of g K := by
        obtain ⟨k, hk, ek, T⟩ := F
        exact ⟨k, hk, by rw [ma_fr_o hf (by decide) (by decide)]; exact ek, ma_T_e T (ma_fr_o hf (by decide) (by decide))⟩
      have e8 := (m_of H2 F2).2.1 j (by omega)
      refine ⟨(nI (j + 1), pb_pI g 228 j (nI (sp_cl (K 2 j) t))), ?_, rfl, ma_fr_pI hf (.inl (by decide)) _, fun k hk => ?_⟩
      · simp only [f_236_4s, if_pos (mi_217 H2), n0, if_neg (nI_ge hj (show K 0 0 < 2 ^ 31 by omega)), mr_217_30 H2, Option.bind_some, lG8, e8, if_pos (mx_228 H2 (show j < 6 by omega)), nI_clamp (show j < 2 ^ 31 by omega), ma_shl (show t < 31 by omega), ma_clr (O.2.2.1 j).2.1 ht, nI_1]
      · show pb_I (pb_pI g 228 j _) 228 k = _
        rw [ma_Ik, if_pos rfl]
        by_cases e : k = j
        · rw [if_pos e, if_pos (by omega), e]
        · rw [if_neg e, hv k hk]
          by_cases l : k < j
          · rw [if_pos l, if_pos (by omega)]
          · rw [if_neg l, if_neg (by omega)]
    · rintro ⟨i, g⟩ ⟨hi, hf, hv⟩
      dsimp only at hi hf hv
      subst hi
      have H2 := ma_H_fr H hf
      have n0 : pb_I g 217 24 = nI (K 0 0) := by rw [ma_fr_o hf (by decide) (by decide), M.1, h1 0 0 (by decide)]
      refine ⟨g, ?_, hf, fun k hk => ?_⟩
      · simp only [f_236_4s, if_pos (mi_217 H2), n0, if_pos (nI_le (Nat.le_refl _) (show K 0 0 < 2 ^ 31 by omega))]
      · rw [hv k hk, sp_bK_2]
        by_cases l : k < K 0 0
        · rw [if_pos l, if_pos l]
        · rw [if_neg l, if_neg l, h2 k (by omega)]
  obtain ⟨g, a1, a2, a3⟩ := l1
  have H2 := ma_H_fr H a2
  have M2 : ma_M g (sp_bK K t (K 0 0)) := by
    have e17 : pb_I g 217 = pb_I h 217 := ma_fr_o a2 (by decide) (by decide)
    refine ⟨?_, ?_, a3, fun m hm => ?_, fun m hm => ?_, fun m hm => ?_, fun m hm => ?_⟩
    · rw [e17, M.1, h1 0 0 (by decide)]; rfl
    · rw [e17, M.2.1, h1 0 1 (by decide)]; rfl
    · rw [ma_fr_o a2 (by decide) (by decide), M.2.2.2.1 m hm, h1 3 m (by decide)]; rfl
    · rw [ma_fr_o a2 (by decide) (by decide), M.2.2.2.2.1 m hm, h1 4 m (by decide)]; rfl
    · rw [ma_fr_o a2 (by decide) (by decide), M.2.2.2.2.2.1 m hm, h1 5 m (by decide)]; rfl
    · rw [ma_fr_o a2 (by decide) (by decide), M.2.2.2.2.2.2 m hm, h1 6 m (by decide)]; rfl
  have OB := ma_OK_bK O t (K 0 0)
  have l2 : pb_wl (f_236_40s N g 217) N (0, 0) = some (nI (sp_mv K t)) := by
    refine ma_lq (fun k s => (nI s, nI k)) (fun c a => if sp_pt (sp_bK K t (K 0 0)) c 63 = sp_pt K c 63 then a else a + 1) (K 0 1) (by omega) rfl (fun k s hk => ?_) ?_
    · have p1 := sp_pt_le OB k 63
      have p2 := sp_pt_le O k 63
      have d1 := m_207 (N := N) H2 M2 OB (show k < 6 by omega) hN
      have d2 : pb_I g 233 k = nI (sp_pt K k 63) := by
        rw [ma_fr_o a2 (by decide) (by decide), hT k (by omega)]
        unfold sp_to
        rw [if_pos hk]
      have eq : (nI (sp_pt (sp_bK K t (K 0 0)) k 63) = nI (sp_pt K k 63)) = (sp_pt (sp_bK K t (K 0 0)) k 63 = sp_pt K k 63) := propext (nI_eq (by omega) (by omega))
      have n1 : pb_I g 217 25 = nI (K 0 1) := M2.2.1
      simp only [f_236_40s, if_pos (mi_217 H2), n1, if_neg (nI_ge hk (show K 0 1 < 2 ^ 31 by omega)), d1, Option.bind_some, mr_217_35 H2, if_pos (mx_233 H2 (show k < 6 by omega)), nI_clamp (show k < 2 ^ 31 by omega), d2, eq, lH0, nI_1]
      split <;> rfl
    · have n1 : pb_I g 217 25 = nI (K 0 1) := M2.2.1
      simp only [f_236_40s, if_pos (mi_217 H2), n1, if_pos (nI_le (Nat.le_refl _) (show K 0 1 < 2 ^ 31 by omega))]
      rfl
  refine ⟨g, ?_, a2, M2⟩
  simp only [f_236, a1, l2, Option.bind_some]
theorem m_237l (H : ma_H h) (M : ma_M h K) (O : ma_OK K) (F : ma_of h K) (hT : ma_to h (sp_to K)) (hN : 3000 < N) (y : Int32) : ∃ g, pb_wl (f_237_27s N 217 y) N (0, -1, 0, h) = some (nI (sp_bn K).2, mI (sp_bn K).1, g) ∧ ma_fr [228] [] h g := by
  have hl : ∃ e, pb_wl (f_237_27s N 217 y) N (0, -1, 0, h) = some e ∧ (e.1 = nI (sp_bn K).2 ∧ e.2.1 = mI (sp_bn K).1 ∧ ma_fr [228] [] h e.2.2) := by
    refine ma_lh (fun j s => s.1 = nI (ma_fo (sp_bng K) j (0, 0)).2 ∧ s.2.1 = mI (ma_fo (sp_bng K) j (0, 0)).1 ∧ s.2.2.1 = nI j ∧ ma_fr [228] [] h s.2.2.2 ∧ (ma_fo (sp_bng K) j (0, 0)).1 ≤ 7 ∧ ∃ K1, ma_M s.2.2.2 K1 ∧ (∀ i k, i ≠ 2 → K1 i k = K i k) ∧ ∀ k, K 0 0 ≤ k → K1 2 k = K 2 k) _ 6 0 N _ (by omega) (by omega) ⟨rfl, rfl, rfl, ma_fr_r _ _ _, Nat.zero_le 7, K, M, fun _ _ _ => rfl, fun _ _ => rfl⟩ ?_ ?_
    · rintro j ⟨x1, x2, i, g⟩ _ hj ⟨h1, h2, hi, hf, hb, K1, M1, k1, k2⟩
      dsimp only at h1 h2 hi hf M1
      subst h1; subst h2; subst hi
      left
      obtain ⟨a, ha⟩ : ∃ a, a = ma_fo (sp_bng K) j (0, 0) := ⟨_, rfl⟩
      rw [← ha] at hb ⊢
      have H2 := ma_H_fr H hf
      have F2 : ma_of g K := by
        obtain ⟨k, hk, ek, T⟩ := F
        exact ⟨k, hk, by rw [ma_fr_o hf (by decide) (by decide)]; exact ek, ma_T_e T (ma_fr_o hf (by decide) (by decide))⟩
      have T2 : ma_to g (sp_to K) := fun k hk => by rw [ma_fr_o hf (by decide) (by decide)]; exact hT k hk
      obtain ⟨g2, a1, a2, a3⟩ := m_236 (N := N) H2 O F2 M1 k1 k2 T2 hj hN
      have hmv := sp_mv_le O j
      have le : (nI (sp_mv K j) ≤ mI a.1) = (sp_mv K j < a.1) := propext (nm_le (by omega) (by omega))
      refine ⟨(nI (sp_bng K j a).2, mI (sp_bng K j a).1, nI (j + 1), g2), ?_, by rw [ma_fo_s, ← ha], by rw [ma_fo_s, ← ha], rfl, ma_fr_t hf a2, ?_, sp_bK K j (K 0 0), a3, fun i k hi => if_neg (fun z => hi z.1), fun k hk => by rw [sp_bK_2, if_neg (by omega)]⟩
      · unfold f_237_27s f_237_55
        dsimp only
        rw [if_neg ((not_congr (lA6 (show j < 2 ^ 31 by omega))).mpr (by omega)), if_pos (mi_217 H2), a1, Option.bind_some, m_170m (by omega) (by omega), nI_1]
        unfold sp_bng
        by_cases q : a.1 ≤ sp_mv K j
        · rw [if_pos q, if_neg (fun z => absurd (le ▸ z) (by omega)), Nat.max_eq_right (by omega)]; rfl
        · rw [if_neg q, if_pos (le.symm ▸ (by omega : sp_mv K j < a.1)), Nat.max_eq_left (by omega)]; rfl
      · rw [ma_fo_s, ← ha]
        unfold sp_bng
        split <;> (try dsimp only) <;> omega
    · rintro ⟨x1, x2, i, g⟩ ⟨h1, h2, hi, hf, hb, _⟩
      dsimp only at h1 h2 hi hf
      subst h1; subst h2; subst hi
      exact ⟨(nI (sp_bn K).2, mI (sp_bn K).1, g), rfl, rfl, rfl, hf⟩
  obtain ⟨⟨x1, x2, g⟩, a1, a2, a3, a4⟩ := hl
  dsimp only at a2 a3 a4
  rw [a2, a3] at a1
  exact ⟨g, a1, a4⟩
theorem q_ban (I : ma_INV h) (hN : 3000 < N) (x t : Int32) : ma_Q h (f_136 N h 0 x t) (fun g => f_237 N g 217 x t) := by
  have H := I.1
  have hq : ma_q h (pb_pI h 217 0 0) := ma_q_pI (ma_q_r h) (by decide) 0 0
  rcases ma_W I hN x with ⟨e1, e2⟩ | ⟨c, K, e1, hc, O, OT, V, e2⟩
  · exact ⟨-1, h, pb_pI h 217 0 0, by simp only [f_136, if_pos (mi_0 H), mr_0_0 H, Option.bind_some, if_pos (mi_1 H), e1], ma_q_r h, by simp only [f_237, if_pos (mi_217 H), e2 _ hq, Option.bind_some, i10, i01, true_or, or_true, false_or, or_false, true_and, and_true, and_false, false_and, not_true_eq_false, not_false_eq_true, if_true, if_false, eq_self, ma_b0, Bool.false_eq_true, Bool.true_eq_false, reduceCtorEq], hq⟩
  · obtain ⟨g1, b1, b2⟩ := c_113l (N := N) H V O hc hN t
    have qg : ma_q h g1 := ma_tq b2
    obtain ⟨g, e3, q3, B⟩ := e2 _ (ma_q_pI qg (by decide : ¬ ma_ps 217) 0 0)
    obtain ⟨g3, l1, l2, l3, l4, l5, l6, l7, lf⟩ := ma_lay (N := N) B.1 B.2.1 O hN
    have F3 : ma_of g3 K := by
      obtain ⟨k, hk, ek, T⟩ := B.2.2.1
      exact ⟨k, hk, by rw [ma_fr_o lf (by decide) (by decide)]; exact ek, ma_T_e T (ma_fr_o lf (by decide) (by decide))⟩
    obtain ⟨g4, m1, m2⟩ := m_237l (N := N) l3 l4 O F3 l5 hN t
    refine ⟨if t = 0 then nI (sp_bn K).2 else mI (sp_bn K).1, g1, g4, ?_, qg, ?_, ma_q_t (ma_q_pI (ma_q_r g1) (by decide) 0 0) (ma_q_t q3 (ma_q_t l2 (ma_q_fr m2 (by decide))))⟩
    · simp only [f_136, if_pos (mi_0 H), mr_0_0 H, Option.bind_some, if_pos (mi_1 H), e1, mr_0_5 H, if_pos (mi_184 H), f_113, b1]
      by_cases q : t = 0
      · simp only [if_pos q, Option.bind_some]
      · simp only [if_neg q, Option.bind_some]
    · simp only [f_237, if_pos (mi_217 (ma_H_q H qg)), e3, Option.bind_some, i10, not_false_eq_true, if_true, if_pos (mi_217 B.1), l1, m1]
      by_cases q : t = 0
      · simp only [if_pos q]
      · simp only [if_neg q]
end
