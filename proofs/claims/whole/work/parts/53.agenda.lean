/-! agenda: who wins, the query -/
section
variable {h : pb_HP} {N n A J v : Nat} {p : Nat → Nat} {W : Nat → Nat → Nat} {K : ma_K} {T : Nat → Nat → Nat}
theorem ca_ag (H : ma_H h) (w : ma_wn h n W) (q : ma_pm h 195 p) (hn1 : 1 ≤ n) (hn : n ≤ 6) (hp : ∀ k, k < n → p k < n) (hW : ∀ a b, W a b ≤ 6) (hN : 3000 < N) : f_56 N h 194 = some (nI (sp_ag W n p)) := by
  have z0 : (0 : Int32).toNatClampNeg = 0 := by decide
  have x0 : pb_ar h 195 12 0 := mx_195 H (j := 0) (by decide)
  have hl : pb_wl (f_56_9s N h 194) N (nI (p 0), 1) = some (nI (sp_ag W n p)) := by
    refine ma_lp (fun j a => (nI a, nI (j + 1))) (fun j w => if W w (p (j + 1)) < W (p (j + 1)) w then p (j + 1) else w) (fun _ a => a < n) (n - 1) (by omega) (hp 0 (by omega)) rfl (fun j a hj ha => ?_) (fun _ => ?_)
    · have hpj := hp (j + 1) (by omega)
      have w1 := hW (p (j + 1)) a
      have w2 := hW a (p (j + 1))
      have le : (nI (W (p (j + 1)) a) ≤ nI (W a (p (j + 1)))) = (W (p (j + 1)) a ≤ W a (p (j + 1))) := propext (nI_leI (by omega) (by omega))
      refine ⟨by split <;> assumption, ?_⟩
      simp only [f_56_9s, if_pos (mi_194 H), w.1, if_neg (nI_ge (show j + 1 < n by omega) (show n < 2 ^ 31 by omega)), mr_194_0 H, Option.bind_some, if_pos (mx_195 H (show j + 1 < 6 by omega)), nI_clamp (show j + 1 < 2 ^ 31 by omega), q (j + 1) (by omega), c_52 H hn w hpj ha, c_52 H hn w ha hpj, le, nI_1]
      by_cases c : W a (p (j + 1)) < W (p (j + 1)) a
      · rw [if_neg (by omega), if_pos c]
      · rw [if_pos (by omega), if_neg c]
    · rw [show n - 1 + 1 = n by omega]
      simp only [f_56_9s, if_pos (mi_194 H), w.1, if_pos (nI_le (Nat.le_refl n) (show n < 2 ^ 31 by omega))]
      rfl
  simp only [f_56, if_pos (mi_194 H), mr_194_0 H, Option.bind_some, if_pos x0, z0, q 0 (by decide), hl]
theorem mb_ag (H : ma_H h) (M : ma_M h K) (O : ma_OK K) (e0 : K 0 0 = n) (q : ma_pm h 236 p) (hn1 : 1 ≤ n) (hn : n ≤ 6) (hp : ∀ k, k < n → p k < n) (hN : 3000 < N) : f_283 N h 217 = some (nI (sp_ag (sp_du K) n p)) := by
  have ec : pb_I h 217 24 = nI n := by rw [M.1, e0]
  have hW := sp_du_le O
  have z0 : (0 : Int32).toNatClampNeg = 0 := by decide
  have x0 : pb_ar h 236 12 0 := mx_236 H (j := 0) (by decide)
  have hl : pb_wl (f_283_9s N h 217) N (nI (p 0), 1) = some (nI (sp_ag (sp_du K) n p)) := by
    refine ma_lp (fun j a => (nI a, nI (j + 1))) (fun j w => if sp_du K w (p (j + 1)) < sp_du K (p (j + 1)) w then p (j + 1) else w) (fun _ a => a < n) (n - 1) (by omega) (hp 0 (by omega)) rfl (fun j a hj ha => ?_) (fun _ => ?_)
    · have hpj := hp (j + 1) (by omega)
      have w1 := hW (p (j + 1)) a
      have w2 := hW a (p (j + 1))
      have le : (nI (sp_du K (p (j + 1)) a) ≤ nI (sp_du K a (p (j + 1)))) = (sp_du K (p (j + 1)) a ≤ sp_du K a (p (j + 1))) := propext (nI_leI (by omega) (by omega))
      refine ⟨by split <;> assumption, ?_⟩
      simp only [f_283_9s, if_pos (mi_217 H), ec, if_neg (nI_ge (show j + 1 < n by omega) (show n < 2 ^ 31 by omega)), mr_217_43 H, Option.bind_some, if_pos (mx_236 H (show j + 1 < 6 by omega)), nI_clamp (show j + 1 < 2 ^ 31 by omega), q (j + 1) (by omega), m_260 H M O (show p (j + 1) < 6 by omega) (show a < 6 by omega) hN, m_260 H M O (show a < 6 by omega) (show p (j + 1) < 6 by omega) hN, le, nI_1]
      by_cases c : sp_du K a (p (j + 1)) < sp_du K (p (j + 1)) a
      · rw [if_neg (by omega), if_pos c]
      · rw [if_pos (by omega), if_neg c]
    · rw [show n - 1 + 1 = n by omega]
      simp only [f_283_9s, if_pos (mi_217 H), ec, if_pos (nI_le (Nat.le_refl n) (show n < 2 ^ 31 by omega))]
      rfl
  simp only [f_283, if_pos (mi_217 H), mr_217_43 H, Option.bind_some, if_pos x0, z0, q 0 (by decide), hl]
theorem ca_55 (H : ma_H h) (w : ma_wn h n W) (hn1 : 1 ≤ n) (hn : n ≤ 6) (hW : ∀ a b, W a b ≤ 6) (C : sp_ch n A T) (hv : v < n) (hJ : (J ≤ A ∧ sp_ag W n (T J) = v) ∨ J = A + 1) (hJ2 : ∀ k, k < J → ¬ sp_ag W n (T k) = v) (hN : 3000 < N) : ∃ g, ma_fr [195] [] h g ∧ ((J ≤ A ∧ f_55 N h 194 (nI v) = some (1, g) ∧ ma_pm g 195 (T J)) ∨ (J = A + 1 ∧ f_55 N h 194 (nI v) = some (0, g))) := by
  have l1 : ∃ e, pb_wl (f_55_2s N 194 (nI v)) N (0, h) = some e ∧ (ma_fr [195] [] h e ∧ ma_pm e 195 (T 0)) := by
    refine ma_lh (fun j s => s.1 = nI j ∧ ma_fr [195] [] h s.2 ∧ ∀ k, k < j → pb_I s.2 195 k = nI k) _ 6 0 N _ (by omega) (by omega) ⟨rfl, ma_fr_r _ _ _, fun k hk => absurd hk (Nat.not_lt_zero k)⟩ ?_ ?_
    · rintro j ⟨y, g⟩ _ hj ⟨hy, hf, hz⟩
      dsimp only at hy hf hz
      subst hy
      left
      have H2 := ma_H_fr H hf
      have ej : ¬ (6 : Int32) ≤ nI j := (not_congr (lA6 (show j < 2 ^ 31 by omega))).mpr (by omega)
      refine ⟨(nI (j + 1), pb_pI g 195 j (nI j)), ?_, rfl, ma_fr_pI hf (.inl (by decide)) _, fun k hk => ?_⟩
      · simp only [f_55_2s, if_neg ej, if_pos (mi_194 H2), mr_194_0 H2, Option.bind_some, if_pos (mx_195 H2 hj), nI_clamp (show j < 2 ^ 31 by omega), nI_1]
      · show pb_I (pb_pI g 195 j (nI j)) 195 k = nI k
        rw [ma_Ik, if_pos rfl]
        by_cases e : k = j
        · rw [if_pos e, e]
        · rw [if_neg e]; exact hz k (by omega)
    · rintro ⟨y, g⟩ ⟨hy, hf, hz⟩
      dsimp only at hy hf hz
      subst hy
      exact ⟨g, rfl, hf, fun k hk => by rw [C.2.1 k hk]; exact hz k hk⟩
  obtain ⟨g0, a1, a2, a3⟩ := l1
  have cA := C.1
  have keep : ∀ g, ma_fr [195] [] h g → ma_wn g n W := fun g f => ⟨by rw [ma_fr_o f (by decide) (by decide)]; exact w.1, fun m o hm ho => by rw [ma_fr_o f (by decide) (by decide)]; exact w.2 m o hm ho⟩
  have l2 : ∃ e, pb_wl (f_55_23s N 194 (nI v)) N (0, g0) = some e ∧ ∃ g, ma_fr [195] [] h g ∧ ((J ≤ A ∧ e = .inl (1, g) ∧ ma_pm g 195 (T J)) ∨ (J = A + 1 ∧ e = .inl (0, g))) := by
    refine ma_lh (fun j s => s.1 = nI j ∧ ma_fr [195] [] h s.2 ∧ ma_pm s.2 195 (T j)) _ (min J A) 0 N _ (by omega) (by omega) ⟨rfl, a2, a3⟩ ?_ ?_
    · rintro j ⟨y, g⟩ _ hj ⟨hy, hf, hz⟩
      dsimp only at hy hf hz
      subst hy
      left
      have H2 := ma_H_fr H hf
      have cp := C.2.2.1 j (by omega)
      have cn := C.2.2.2.1 j (by omega)
      have ej : ¬ (720 : Int32) ≤ nI j := (not_congr (lA720 (show j < 2 ^ 31 by omega))).mpr (by omega)
      have g6 := ca_ag (N := N) H2 (keep g hf) hz hn1 hn cp hW hN
      have lt := sp_ag_lt (W := W) hn1 cp
      have ne : ¬ nI (sp_ag W n (T j)) = nI v := fun z => hJ2 j (by omega) ((nI_eq (by omega) (by omega)).mp z)
      obtain ⟨g2, b1, b2, b3⟩ := (ca_nx (N := N) H2 hz hn1 hn cp (keep g hf).1 hN).2 cn.1
      refine ⟨(nI (j + 1), g2), ?_, rfl, ma_fr_t hf b2, fun k hk => by rw [← cn.2 k hk]; exact b3 k hk⟩
      simp only [f_55_23s, if_neg ej, if_pos (mi_194 H2), g6, Option.bind_some, ne, not_false_eq_true, if_true, b1, i10, nI_1]
    · rintro ⟨y, g⟩ ⟨hy, hf, hz⟩
      dsimp only at hy hf hz
      subst hy
      have H2 := ma_H_fr H hf
      have cp := C.2.2.1 (min J A) (by omega)
      have ej : ¬ (720 : Int32) ≤ nI (min J A) := (not_congr (lA720 (show min J A < 2 ^ 31 by omega))).mpr (by omega)
      have g6 := ca_ag (N := N) H2 (keep g hf) hz hn1 hn cp hW hN
      have lt := sp_ag_lt (W := W) hn1 cp
      have eq : (nI (sp_ag W n (T (min J A))) = nI v) ↔ _ := nI_eq (by omega) (by omega)
      rcases hJ with ⟨j1, j2⟩ | j1
      · have mj : min J A = J := Nat.min_eq_left j1
        rw [mj] at eq g6 ej hz
        refine ⟨.inl (1, g), ?_, g, hf, .inl ⟨j1, rfl, hz⟩⟩
        rw [mj]
        simp only [f_55_23s, if_neg ej, if_pos (mi_194 H2), g6, Option.bind_some, eq.mpr j2, not_true_eq_false, if_false]
      · have mj : min J A = A := Nat.min_eq_right (by omega)
        rw [mj] at eq g6 ej hz cp
        have ne : ¬ nI (sp_ag W n (T A)) = nI v := fun z => hJ2 A (by omega) (eq.mp z)
        have b1 := (ca_nx (N := N) H2 hz hn1 hn cp (keep g hf).1 hN).1 C.2.2.2.2
        refine ⟨.inl (0, g), ?_, g, hf, .inr ⟨j1, rfl⟩⟩
        rw [mj]
        simp only [f_55_23s, if_neg ej, if_pos (mi_194 H2), g6, Option.bind_some, ne, not_false_eq_true, if_true, b1, not_true_eq_false, if_false]
  obtain ⟨e, d1, g, d2, d3⟩ := l2
  refine ⟨g, d2, ?_⟩
  rcases d3 with ⟨j1, rfl, j2⟩ | ⟨j1, rfl⟩
  · exact .inl ⟨j1, by simp only [f_55, a1, Option.bind_some, d1], j2⟩
  · exact .inr ⟨j1, by simp only [f_55, a1, Option.bind_some, d1]⟩
theorem mb_59 (H : ma_H h) (M : ma_M h K) (O : ma_OK K) (e0 : K 0 0 = n) (hn1 : 1 ≤ n) (hn : n ≤ 6) (C : sp_ch n A T) (hv : v < n) (hJ : (J ≤ A ∧ sp_ag (sp_du K) n (T J) = v) ∨ J = A + 1) (hJ2 : ∀ k, k < J → ¬ sp_ag (sp_du K) n (T k) = v) {z : Nat} (hz6 : z < 6) (hN : 3000 < N) : ∃ g0 e g, pb_wl (f_284_34s N 217 (nI v) (nI z)) N (0, h) = some g0 ∧ pb_wl (f_284_59s N 217 (nI v) (nI z)) N (1, g0) = some e ∧ ma_fr [236] [] h g ∧ ((J ≤ A ∧ e = .inl (nI (T J z), g)) ∨ (J = A + 1 ∧ e = .inr g)) := by
  have l1 : ∃ e, pb_wl (f_284_34s N 217 (nI v) (nI z)) N (0, h) = some e ∧ (ma_fr [236] [] h e ∧ ma_pm e 236 (T 0)) := by
    refine ma_lh (fun j s => s.1 = nI j ∧ ma_fr [236] [] h s.2 ∧ ∀ k, k < j → pb_I s.2 236 k = nI k) _ 6 0 N _ (by omega) (by omega) ⟨rfl, ma_fr_r _ _ _, fun k hk => absurd hk (Nat.not_lt_zero k)⟩ ?_ ?_
    · rintro j ⟨y, g⟩ _ hj ⟨hy, hf, hz⟩
      dsimp only at hy hf hz
      subst hy
      left
      have H2 := ma_H_fr H hf
      have ej : ¬ (6 : Int32) ≤ nI j := (not_congr (lA6 (show j < 2 ^ 31 by omega))).mpr (by omega)
      refine ⟨(nI (j + 1), pb_pI g 236 j (nI j)), ?_, rfl, ma_fr_pI hf (.inl (by decide)) _, fun k hk => ?_⟩
      · simp only [f_284_34s, if_neg ej, if_pos (mi_217 H2), mr_217_43 H2, Option.bind_some, if_pos (mx_236 H2 hj), nI_clamp (show j < 2 ^ 31 by omega), nI_1]
      · show pb_I (pb_pI g 236 j (nI j)) 236 k = nI k
        rw [ma_Ik, if_pos rfl]
        by_cases e : k = j
        · rw [if_pos e, e]
        · rw [if_neg e]; exact hz k (by omega)
    · rintro ⟨y, g⟩ ⟨hy, hf, hz⟩
      dsimp only at hy hf hz
      subst hy
      exact ⟨g, rfl, hf, fun k hk => by rw [C.2.1 k hk]; exact hz k hk⟩
  obtain ⟨g0, a1, a2, a3⟩ := l1
  have cA := C.1
  have keep : ∀ g, ma_fr [236] [] h g → ma_M g K := fun g f => ma_M_fr M f (by decide) (by decide)
  have l2 : ∃ e, pb_wl (f_284_59s N 217 (nI v) (nI z)) N (1, g0) = some e ∧ ∃ g, ma_fr [236] [] h g ∧ ((J ≤ A ∧ e = .inl (nI (T J z), g)) ∨ (J = A + 1 ∧ e = .inr g)) := by
    have hJA : J ≤ A + 1 := by omega
    refine ma_lh (fun j s => s.1 = (if j ≤ A then 1 else 0) ∧ ma_fr [236] [] h s.2 ∧ (j ≤ A → ma_pm s.2 236 (T j))) _ J 0 N _ (by omega) (by omega) ⟨rfl, a2, fun _ => a3⟩ ?_ ?_
    · rintro j ⟨y, g⟩ _ hj ⟨hy, hf, hz⟩
      dsimp only at hy hf hz
      have hz := hz (by omega)
      rw [if_pos (by omega)] at hy
      subst hy
      left
      have H2 := ma_H_fr H hf
      have cp := C.2.2.1 j (by omega)
      have g6 := mb_ag (N := N) H2 (keep g hf) O e0 hz hn1 hn cp hN
      have lt := sp_ag_lt (W := sp_du K) hn1 cp
      have ne : ¬ nI (sp_ag (sp_du K) n (T j)) = nI v := fun z => hJ2 j hj ((nI_eq (by omega) (by omega)).mp z)
      have ec : pb_I g 217 24 = nI n := by rw [(keep g hf).1, e0]
      have nx := mb_nx (N := N) H2 hz hn1 hn cp ec hN
      by_cases l : j < A
      · have cn := C.2.2.2.1 j l
        obtain ⟨g2, b1, b2, b3⟩ := nx.2 cn.1
        refine ⟨(1, g2), ?_, by rw [if_pos (by omega)], ma_fr_t hf b2, fun _ k hk => by rw [← cn.2 k hk]; exact b3 k hk⟩
        simp only [f_284_59s, i10, if_false, if_pos (mi_217 H2), g6, Option.bind_some, ne, not_false_eq_true, if_true, b1]
      · have e : j = A := by omega
        subst e
        have b1 := nx.1 C.2.2.2.2
        refine ⟨(0, g), ?_, by rw [if_neg (by omega)], hf, fun q => absurd q (by omega)⟩
        simp only [f_284_59s, i10, if_false, if_pos (mi_217 H2), g6, Option.bind_some, ne, not_false_eq_true, if_true, b1]
    · rintro ⟨y, g⟩ ⟨hy, hf, hz⟩
      dsimp only at hy hf hz
      rcases hJ with ⟨j1, j2⟩ | j1
      · have hz := hz j1
        rw [if_pos j1] at hy
        subst hy
        have H2 := ma_H_fr H hf
        have cp := C.2.2.1 J j1
        have g6 := mb_ag (N := N) H2 (keep g hf) O e0 hz hn1 hn cp hN
        refine ⟨.inl (nI (T J z), g), ?_, g, hf, .inl ⟨j1, rfl⟩⟩
        simp only [f_284_59s, i10, if_false, if_pos (mi_217 H2), g6, Option.bind_some, j2, not_true_eq_false, mr_217_43 H2, if_pos (mx_236 H2 hz6), nI_clamp (show z < 2 ^ 31 by omega), hz z hz6]
      · rw [if_neg (by omega)] at hy
        subst hy
        refine ⟨.inr g, ?_, g, hf, .inr ⟨j1, rfl⟩⟩
        simp only [f_284_59s, if_true]
  obtain ⟨e, d1, g, d2, d3⟩ := l2
  exact ⟨g0, e, g, a1, d1, d2, d3⟩
theorem q_agenda (I : ma_INV h) (hN : 3000 < N) (x y z : Int32) : ma_Q h (f_152 N h 0 x y z) (fun g => f_284 N g 217 x y z) := by
  have H := I.1
  have hq : ma_q h (pb_pI h 217 0 0) := ma_q_pI (ma_q_r h) (by decide) 0 0
  rcases ma_W I hN x with ⟨e1, e2⟩ | ⟨c, K, e1, hc, O, OT, V, e2⟩
  · exact ⟨-1, h, pb_pI h 217 0 0, by simp only [f_152, if_pos (mi_0 H), mr_0_0 H, Option.bind_some, if_pos (mi_1 H), e1], ma_q_r h, by simp only [f_284, if_pos (mi_217 H), e2 _ hq, Option.bind_some, i10, i01, true_or, or_true, false_or, or_false, true_and, and_true, and_false, false_and, not_true_eq_false, not_false_eq_true, if_true, if_false, eq_self, ma_b0, Bool.false_eq_true, Bool.true_eq_false, reduceCtorEq], hq⟩
  · have hO := O.1
    cases qm : ma_at y (K 0 0)
    · obtain ⟨g, e3, q3, B⟩ := e2 _ hq
      exact ⟨-1, h, g, by simp only [f_152, if_pos (mi_0 H), mr_0_0 H, Option.bind_some, if_pos (mi_1 H), e1, if_pos (wv_is H V.1), c_3 H V, qm, i10, i01, true_or, or_true, false_or, or_false, true_and, and_true, and_false, false_and, not_true_eq_false, not_false_eq_true, if_true, if_false, eq_self, ma_b0, Bool.false_eq_true, Bool.true_eq_false, reduceCtorEq], ma_q_r h, by simp only [f_284, if_pos (mi_217 H), e3, Option.bind_some, if_pos (mi_217 B.1), m_200 B.1 B.2.1 O, qm, i10, i01, true_or, or_true, false_or, or_false, true_and, and_true, and_false, false_and, not_true_eq_false, not_false_eq_true, if_true, if_false, eq_self, ma_b0, Bool.false_eq_true, Bool.true_eq_false, reduceCtorEq], ma_q_t hq q3⟩
    · have qy := qm
      clear qm
      cases qm : ma_at z (K 0 0)
      · obtain ⟨g, e3, q3, B⟩ := e2 _ hq
        exact ⟨-1, h, g, by simp only [f_152, if_pos (mi_0 H), mr_0_0 H, Option.bind_some, if_pos (mi_1 H), e1, if_pos (wv_is H V.1), c_3 H V, qy, qm, i10, i01, true_or, or_true, false_or, or_false, true_and, and_true, and_false, false_and, not_true_eq_false, not_false_eq_true, if_true, if_false, eq_self, ma_b0, Bool.false_eq_true, Bool.true_eq_false, reduceCtorEq], ma_q_r h, by simp only [f_284, if_pos (mi_217 H), e3, Option.bind_some, if_pos (mi_217 B.1), m_200 B.1 B.2.1 O, qy, qm, i10, i01, true_or, or_true, false_or, or_false, true_and, and_true, and_false, false_and, not_true_eq_false, not_false_eq_true, if_true, if_false, eq_self, ma_b0, Bool.false_eq_true, Bool.true_eq_false, reduceCtorEq], ma_q_t hq q3⟩
      · obtain ⟨a, ha, rfl⟩ := ma_at_ex (by omega) qy
        obtain ⟨b, hb, rfl⟩ := ma_at_ex (by omega) qm
        obtain ⟨g1, a1, a2, a3⟩ := c_50 (N := N) H V O hc hN
        have H1 := ma_H_fr H a2
        have qg := ma_dlq a2
        obtain ⟨A, T, C⟩ := sp_chX (n := K 0 0) (by omega) hO
        obtain ⟨J, hJ, hJ2⟩ := ma_first (fun j => sp_ag (sp_du K) (K 0 0) (T j) = a) A
        obtain ⟨g4, f4, r4⟩ := ca_55 (N := N) H1 a3 (show 1 ≤ K 0 0 by omega) hO (sp_du_le O) C ha hJ hJ2 hN
        have H4 := ma_H_fr H1 f4
        have q4 : ma_q h g4 := ma_q_t qg (ma_q_fr f4 (by decide))
        obtain ⟨g, e3, q3, B⟩ := e2 _ (ma_q_pI q4 (by decide : ¬ ma_ps 217) 0 0)
        obtain ⟨g5, e5, g6, b1, b2, b3, b4⟩ := mb_59 (N := N) (n := K 0 0) B.1 B.2.1 O rfl (show 1 ≤ K 0 0 by omega) hO C ha hJ hJ2 (show b < 6 by omega) hN
        have qf : ma_q g4 g6 := ma_q_t (ma_q_pI (ma_q_r g4) (by decide) 0 0) (ma_q_t q3 (ma_q_fr b3 (by decide)))
        rcases r4 with ⟨j1, r1, r2⟩ | ⟨j1, r1⟩
        · rcases b4 with ⟨_, rfl⟩ | ⟨k1, _⟩
          · exact ⟨nI (T J b), g4, g6, by simp only [f_152, if_pos (mi_0 H), mr_0_0 H, Option.bind_some, if_pos (mi_1 H), e1, if_pos (wv_is H V.1), c_3 H V, qy, qm, mr_0_6 H, if_pos (mi_194 H), a1, if_pos (mi_0 H1), mr_0_6 H1, if_pos (mi_194 H1), r1, i10, if_pos (mi_0 H4), mr_0_6 H4, if_pos (mi_194 H4), mr_194_0 H4, if_pos (mx_195 H4 (show b < 6 by omega)), nI_clamp (show b < 2 ^ 31 by omega), r2 b (show b < 6 by omega), i10, i01, true_or, or_true, false_or, or_false, true_and, and_true, and_false, false_and, not_true_eq_false, not_false_eq_true, if_true, if_false, eq_self, ma_b0, Bool.false_eq_true, Bool.true_eq_false, reduceCtorEq], q4, by simp only [f_284, if_pos (mi_217 H4), e3, Option.bind_some, if_pos (mi_217 B.1), m_200 B.1 B.2.1 O, qy, qm, b1, b2, i10, i01, true_or, or_true, false_or, or_false, true_and, and_true, and_false, false_and, not_true_eq_false, not_false_eq_true, if_true, if_false, eq_self, ma_b0, Bool.false_eq_true, Bool.true_eq_false, reduceCtorEq], qf⟩
          · omega
        · rcases b4 with ⟨k1, _⟩ | ⟨_, rfl⟩
          · omega
          · exact ⟨-1, g4, g6, by simp only [f_152, if_pos (mi_0 H), mr_0_0 H, Option.bind_some, if_pos (mi_1 H), e1, if_pos (wv_is H V.1), c_3 H V, qy, qm, mr_0_6 H, if_pos (mi_194 H), a1, if_pos (mi_0 H1), mr_0_6 H1, if_pos (mi_194 H1), r1, i10, i01, true_or, or_true, false_or, or_false, true_and, and_true, and_false, false_and, not_true_eq_false, not_false_eq_true, if_true, if_false, eq_self, ma_b0, Bool.false_eq_true, Bool.true_eq_false, reduceCtorEq], q4, by simp only [f_284, if_pos (mi_217 H4), e3, Option.bind_some, if_pos (mi_217 B.1), m_200 B.1 B.2.1 O, qy, qm, b1, b2, i10, i01, true_or, or_true, false_or, or_false, true_and, and_true, and_false, false_and, not_true_eq_false, not_false_eq_true, if_true, if_false, eq_self, ma_b0, Bool.false_eq_true, Bool.true_eq_false, reduceCtorEq], qf⟩
end
