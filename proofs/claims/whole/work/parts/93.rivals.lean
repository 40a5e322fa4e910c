/-! rivals: the call -/
section
variable {h : pb_HP} {N : Nat} {K : ma_K} {a b n : Nat}
theorem ri_of_fr {g : pb_HP} {L : List Nat} {F : List (Nat × Nat)} (Of : ma_of h K) (f : ma_fr L F h g) (h1 : 217 ∉ L) (h2 : (217, 23) ∉ F) (h3 : 223 ∉ L) (h4 : 223 ∉ F.map Prod.fst) : ma_of g K := by
  obtain ⟨k, hk, e, T⟩ := Of
  exact ⟨k, hk, by rw [f.2.2 217 23 h1 h2]; exact e, ma_T_e T (ma_fr_o f h3 h4)⟩
theorem m_241a (H : ma_H h) (Of : ma_of h K) (M : ma_M h K) (O : ma_OK K) (ha : a < K 0 0) (hb : b < K 0 0) (ab : a ≠ b) (hn : n ≤ 4) (v5 : Int32) (hN : 3000 < N) : ∃ g, pb_wl (f_241_57s N 217 (nI a) (nI b) (nI n) v5 (nI (7 ^ n))) N (0, h) = some g ∧ ma_fr [228, 233, 234] [] h g ∧ ∀ k, k < 7 ^ n → pb_I g 234 k = ri_I (ri_w K a b n n k) := by
  have s7 := ri_7 hn
  have lp : ∃ g, pb_wl (f_241_57s N 217 (nI a) (nI b) (nI n) v5 (nI (7 ^ n))) N (0, h) = some g ∧ (ma_fr [228, 233, 234] [] h g ∧ ∀ k, k < 7 ^ n → pb_I g 234 k = ri_I (ri_w K a b n n k)) := by
    refine ma_lh (fun j s => ∃ x y, s.1 = nI j ∧ ma_fr [228, 233, 234] [] h s.2 ∧ ma_M s.2 (ri_k K a b x y) ∧ ∀ k, k < j → pb_I s.2 234 k = ri_I (ri_w K a b n n k)) _ (7 ^ n) 0 N _ (Nat.zero_le _) (by omega) ⟨K 2 a, K 2 b, rfl, ma_fr_r _ _ _, by rw [ri_k_0]; exact M, fun k hk => absurd hk (Nat.not_lt_zero k)⟩ ?_ ?_
    · rintro j ⟨y1, g⟩ _ hj ⟨x, y, hy, fg, Mg, p⟩
      dsimp only at hy fg Mg p
      subst hy
      have Hg := ma_H_fr H fg
      obtain ⟨g2, x', y', a1, a2, a3⟩ := m_239 (N := N) (k := j) Hg (ri_of_fr Of fg (by decide) (by decide) (by decide) (by decide)) Mg O ha hb ab hn hj hN
      have H2 := ma_H_fr Hg a2
      left
      refine ⟨(nI (j + 1), pb_pI g2 234 j (ri_I (ri_w K a b n n j))), ?_, x', y', rfl, ma_fr_pI (ma_fr_t fg (ma_fr_w a2 (by decide) (by decide))) (.inl (by decide)) _, ma_M_o a3 (.inr (.inr (by decide))) _, fun k hk => ?_⟩
      · unfold f_241_57s
        dsimp only
        rw [if_neg (nI_ge hj (show 7 ^ n < 2 ^ 31 by omega)), if_pos (mi_217 Hg), mr_217_37 Hg, Option.bind_some, a1, Option.bind_some]
        dsimp only
        rw [if_pos (mx_234 H2 (show j < 2401 by omega)), nI_clamp (show j < 2 ^ 31 by omega), nI_1]
      · show pb_I (pb_pI g2 234 j _) 234 k = _
        rw [ma_Ik, if_pos rfl]
        by_cases q : k = j
        · rw [if_pos q, q]
        · rw [if_neg q, ma_fr_o a2 (by decide) (by decide)]; exact p k (by omega)
    · rintro ⟨y1, g⟩ ⟨x, y, hy, fg, Mg, p⟩
      dsimp only at hy fg Mg p
      subst hy
      refine ⟨g, ?_, fg, p⟩
      unfold f_241_57s
      dsimp only
      rw [if_pos (nI_le (Nat.le_refl (7 ^ n)) (show 7 ^ n < 2 ^ 31 by omega))]
  exact lp
/-- one level folded -/
theorem m_241b {t : Nat} (H : ma_H h) (ht : t < n) (hn : n ≤ 4) (he : ∀ k, k < 7 ^ (t + 1) → pb_I h 234 k = ri_I (ri_w K a b n (t + 1) k)) (v5 : Int32) (hN : 3000 < N) : ∃ g, pb_wl (f_241_113s N 217 v5 (nI (7 ^ t)) (nI t)) N (0, h) = some g ∧ ma_fr [234] [(217, 38)] h g ∧ (∀ k, k < 7 ^ t → pb_I g 234 k = ri_I (ri_w K a b n t k)) ∧ (t = 0 → pb_I g 217 38 = mI (ri_g (fun v => if v < 7 then ri_w K a b n 1 v else 0) true 7).2) := by
  have s7 := ri_7 (n := t + 1) (by omega)
  have p7 : 7 ^ (t + 1) = 7 ^ t * 7 := Nat.pow_succ 7 t
  have p0 : 0 < 7 ^ t := Nat.pow_pos (by decide)
  have lp : ∃ g, pb_wl (f_241_113s N 217 v5 (nI (7 ^ t)) (nI t)) N (0, h) = some g ∧ (ma_fr [234] [(217, 38)] h g ∧ (∀ k, k < 7 ^ t → pb_I g 234 k = ri_I (ri_w K a b n t k)) ∧ (0 < 7 ^ t → t = 0 → pb_I g 217 38 = mI (ri_g (fun v => if v < 7 then ri_w K a b n 1 v else 0) true 7).2)) := by
    refine ma_lh (fun j s => s.1 = nI j ∧ ma_fr [234] [(217, 38)] h s.2 ∧ (∀ k, k < j → pb_I s.2 234 k = ri_I (ri_w K a b n t k)) ∧ (∀ k, j ≤ k → k < 7 ^ (t + 1) → pb_I s.2 234 k = ri_I (ri_w K a b n (t + 1) k)) ∧ (0 < j → t = 0 → pb_I s.2 217 38 = mI (ri_g (fun v => if v < 7 then ri_w K a b n 1 v else 0) true 7).2)) _ (7 ^ t) 0 N _ (by omega) (by omega) ⟨rfl, ma_fr_r _ _ _, fun k hk => absurd hk (Nat.not_lt_zero k), fun k _ hk => he k hk, fun q => absurd q (Nat.lt_irrefl 0)⟩ ?_ ?_
    · rintro j ⟨y1, g⟩ _ hj ⟨hy, fg, p, q, w⟩
      dsimp only at hy fg p q w
      subst hy
      have Hg := ma_H_fr H fg
      obtain ⟨g2, a1, a2, a3⟩ := m_240 (N := N) (at' := 7 * j) (e := fun v => if v < 7 then ri_w K a b n (t + 1) (7 * j + v) else 0) Hg (fun v hv => by rw [if_pos hv]; exact q (7 * j + v) (by omega) (by omega)) (fun v => by split; exact ri_w_le _ _ _ _ _ _; exact Nat.zero_le _) (by omega) (decide (t % 2 = 0)) hN
      have H2 := ma_H_fr Hg a2
      rw [ri_fold ht] at a1
      left
      refine ⟨(nI (j + 1), pb_pI g2 234 j (ri_I (ri_w K a b n t j))), ?_, rfl, ma_fr_pI (ma_fr_t fg (ma_fr_w a2 (by decide) (by decide))) (.inl (by decide)) _, fun k hk => ?_, fun k h1 h2 => ?_, fun _ t0 => ?_⟩
      · have fin : ∀ z : Int32, z = (if decide (t % 2 = 0) = true then 1 else 0) → f_241_144 N g 217 v5 (nI (7 ^ t)) (nI t) (nI j) z (7 * nI j) 217 (nI j) 234 = some (.inl (nI (j + 1), pb_pI g2 234 j (ri_I (ri_w K a b n t j)))) := fun z ez => by
          subst ez
          unfold f_241_144
          rw [if_pos (mi_217 Hg), lI7, a1, Option.bind_some]
          dsimp only
          rw [if_pos (mx_234 H2 (show j < 2401 by omega)), nI_clamp (show j < 2 ^ 31 by omega), nI_1]
        unfold f_241_113s
        dsimp only
        rw [if_neg (nI_ge hj (show 7 ^ t < 2 ^ 31 by omega)), if_pos (mi_217 Hg), mr_217_37 Hg, Option.bind_some]
        by_cases c : t % 2 = 0
        · rw [if_neg (fun z => (ri_odd (show t < 2 ^ 30 by omega)).mp z c)]
          exact fin 1 (by rw [decide_eq_true c]; rfl)
        · rw [if_pos ((ri_odd (show t < 2 ^ 30 by omega)).mpr c)]
          exact fin 0 (by rw [decide_eq_false c]; rfl)
      · show pb_I (pb_pI g2 234 j _) 234 k = _
        rw [ma_Ik, if_pos rfl]
        by_cases z : k = j
        · rw [if_pos z, z]
        · rw [if_neg z, ma_fr_o a2 (by decide) (by decide)]; exact p k (by omega)
      · show pb_I (pb_pI g2 234 j _) 234 k = _
        rw [ma_Ik, if_pos rfl, if_neg (by omega), ma_fr_o a2 (by decide) (by decide)]; exact q k (by omega) h2
      · show pb_I (pb_pI g2 234 j _) 217 38 = _
        rw [ma_Ik, if_neg (by decide), a3]
        subst t0
        have j0 : j = 0 := by
          have : 7 ^ 0 = 1 := rfl
          omega
        subst j0
        simp only [Nat.mul_zero, Nat.zero_add]
        rfl
    · rintro ⟨y1, g⟩ ⟨hy, fg, p, q, w⟩
      dsimp only at hy fg p q w
      subst hy
      refine ⟨g, ?_, fg, p, w⟩
      unfold f_241_113s
      dsimp only
      rw [if_pos (nI_le (Nat.le_refl (7 ^ t)) (show 7 ^ t < 2 ^ 31 by omega))]
  obtain ⟨g, a1, a2, a3, a4⟩ := lp
  exact ⟨g, a1, a2, a3, a4 p0⟩
theorem m_241c (H : ma_H h) (hn : n ≤ 4) (he : ∀ k, k < 7 ^ n → pb_I h 234 k = ri_I (ri_w K a b n n k)) (k38 : pb_I h 217 38 = -1) (v5 : Int32) (hN : 3000 < N) : ∃ g, pb_wl (f_241_98s N 217 v5) N (nI (7 ^ n), nI n - 1, h) = some g ∧ ma_fr [234] [(217, 38)] h g ∧ pb_I g 234 0 = ri_I (ri_w K a b n 0 0) ∧ pb_I g 217 38 = mI (if n = 0 then 0 else (ri_g (fun v => if v < 7 then ri_w K a b n 1 v else 0) true 7).2) := by
  have e1 : nI n - 1 = mI n := rfl
  rw [e1]
  have lp : ∃ g, pb_wl (f_241_98s N 217 v5) N (nI (7 ^ n), mI n, h) = some g ∧ (ma_fr [234] [(217, 38)] h g ∧ (∀ k, k < 7 ^ 0 → pb_I g 234 k = ri_I (ri_w K a b n 0 k)) ∧ pb_I g 217 38 = mI (if n = 0 then 0 else (ri_g (fun v => if v < 7 then ri_w K a b n 1 v else 0) true 7).2)) := by
    refine ma_lh (fun j s => ∃ g, s = (nI (7 ^ (n - j)), mI (n - j), g) ∧ ma_fr [234] [(217, 38)] h g ∧ (∀ k, k < 7 ^ (n - j) → pb_I g 234 k = ri_I (ri_w K a b n (n - j) k)) ∧ (j = 0 → pb_I g 217 38 = -1) ∧ (j = n → n ≠ 0 → pb_I g 217 38 = mI (ri_g (fun v => if v < 7 then ri_w K a b n 1 v else 0) true 7).2)) _ n 0 N _ (by omega) (by omega) ⟨h, rfl, ma_fr_r _ _ _, he, fun _ => k38, fun q r => absurd q.symm r⟩ ?_ ?_
    · rintro j s _ hj ⟨g, rfl, fg, p, q, w⟩
      have Hg := ma_H_fr H fg
      obtain ⟨t, et⟩ : ∃ t, t = n - (j + 1) := ⟨_, rfl⟩
      have nj : n - j = t + 1 := by omega
      have s7 := ri_7 (n := t + 1) (by omega)
      rw [nj] at p ⊢
      obtain ⟨g2, a1, a2, a3, a4⟩ := m_241b (N := N) (t := t) (K := K) (a := a) (b := b) Hg (show t < n by omega) hn p v5 hN
      have d1 : nI (7 ^ (t + 1)) / 7 = nI (7 ^ t) := by
        rw [lL7 (by omega), Nat.pow_succ, Nat.mul_div_cancel _ (by decide)]
      have e2 : nI t + (-1) = mI t := by
        show nI t + (-1) = nI t - 1
        rw [Int32.sub_eq_add_neg]
      left
      refine ⟨(nI (7 ^ t), mI t, g2), ?_, g2, by rw [← et], ma_fr_t fg a2, by rw [← et]; exact a3, fun z => absurd z (by omega), fun z _ => a4 (by omega)⟩
      unfold f_241_98s
      dsimp only
      rw [mI_s, if_neg (nI_pos (show t < 2 ^ 31 by omega)), d1, a1, Option.bind_some, e2]
    · rintro s ⟨g, rfl, fg, p, q, w⟩
      rw [Nat.sub_self] at p
      refine ⟨g, ?_, fg, p, ?_⟩
      · rw [Nat.sub_self]
        unfold f_241_98s
        dsimp only
        rw [if_pos (show mI 0 < 0 by decide)]
      · by_cases n0 : n = 0
        · rw [if_pos n0, q n0]; rfl
        · rw [if_neg n0, w rfl n0]
  obtain ⟨g, a1, a2, a3, a4⟩ := lp
  exact ⟨g, a1, a2, a3 0 (by decide), a4⟩
theorem q_rivals (I : ma_INV h) (hN : 3000 < N) (x p q r s : Int32) : ma_Q h (f_137 N h 0 x p q r s) (fun g => f_241 N g 217 x p q r s) := by
  have H := I.1
  have hq : ma_q h (pb_pI h 217 0 0) := ma_q_pI (ma_q_r h) (by decide) 0 0
  -- the number of turns, on the model's side
  have m4 : f_168 r 0 4 = some (if ma_at r 5 then 1 else 0) := m_168 r (n := 5) (by decide)
  have no : ∀ A, f_137 N h 0 x p q r s = some (-9, h) → f_241 N h 217 x p q r s = some (-9, A) → ma_q h A → ma_Q h (f_137 N h 0 x p q r s) (fun g => f_241 N g 217 x p q r s) := fun A u1 u2 u3 => ⟨-9, h, A, u1, ma_q_r h, u2, u3⟩
  have t241 : ma_at r 5 = true → f_241 N h 217 x p q r s = (f_198 N (pb_pI h 217 0 0) 217 x).bind fun (r3, h4) => (if r3 = 0 then (some (((-9), h4))) else (if pb_is h4 217 11 then ((f_200 h4 217 p).bind fun r6 => (if r6 = 0 then (some (((-9), h4))) else ((f_200 h4 217 q).bind fun r7 => (if r7 = 0 then (some (((-9), h4))) else (if ¬ p = q then ((f_238 N r).bind fun r8 => ((pb_wl (f_241_57s N 217 p q r s r8) N ((0, h4))).bind fun e15 => (if pb_is e15 217 11 then ((pb_wl (f_241_98s N 217 s) N ((r8, r - 1, pb_pI e15 217 38 ((-1))))).bind fun e27 => (if s = 0 then (if pb_is e27 217 11 then ((pb_R e27 217 37).bind fun q29 => (if pb_ar e27 q29 12 0 then (some ((pb_I e27 q29 (0 : Int32).toNatClampNeg, e27))) else none)) else none) else (if pb_is e27 217 11 then (some ((pb_I e27 217 38, e27))) else none))) else none))) else (some (((-9), h4)))))))) else none)) := fun z => by
    unfold f_241
    rw [if_pos (mi_217 H), m4, z, Option.bind_some, if_pos rfl, if_neg (by decide)]
  rcases ma_W I hN x with ⟨e1, e2⟩ | ⟨c, K, e1, hc, O, OT, V, e2⟩
  · have u1 : f_137 N h 0 x p q r s = some (-9, h) := by simp only [f_137, if_pos (mi_0 H), mr_0_0 H, Option.bind_some, if_pos (mi_1 H), e1]
    cases z : ma_at r 5 with
    | false =>
      refine no _ u1 ?_ hq
      unfold f_241
      rw [if_pos (mi_217 H), m4, z, Option.bind_some, if_pos (by decide)]
    | true =>
      refine no _ u1 ?_ hq
      rw [t241 z, e2 _ hq]
      rfl
  · have h6 := O.1
    have top : f_137 N h 0 x p q r s = if ma_at p (K 0 0) = true then (if ma_at q (K 0 0) = true then (if p = q then some (-9, h) else (if r < 0 then some (-9, h) else (if r ≤ 4 then ((f_115 N h 184 c p q r s).bind fun (r11, h12) => (some ((r11, h12)))) else some (-9, h)))) else some (-9, h)) else some (-9, h) := by
      unfold f_137
      rw [if_pos (mi_0 H), mr_0_0 H, Option.bind_some, if_pos (mi_1 H), e1, Option.bind_some]
      dsimp only
      rw [if_pos (wv_is H V.1), c_3 H V, Option.bind_some]
      cases ma_at p (K 0 0) with
      | false => rfl
      | true =>
        rw [if_pos rfl, if_neg (by decide), if_pos rfl, c_3 H V, Option.bind_some]
        cases ma_at q (K 0 0) with
        | false => rfl
        | true => rw [if_pos rfl, if_neg (by decide), if_pos rfl, mr_0_5 H, Option.bind_some, if_pos (mi_184 H)]
    cases z : ma_at r 5 with
    | false =>
      refine no _ ?_ ?_ hq
      · rw [top]
        rcases ma_at_no z with w | w
        · rw [if_pos w]
          split
          · split
            · split <;> rfl
            · rfl
          · rfl
        · have n1 : ¬ r ≤ 4 := fun y => by
            rw [Int32.le_iff_toInt_le, nI_toInt (by decide)] at w
            rw [Int32.le_iff_toInt_le] at y
            have : (4 : Int32).toInt = 4 := by decide
            omega
          rw [if_neg n1]
          split
          · split
            · split
              · rfl
              · split <;> rfl
            · rfl
          · rfl
      · unfold f_241
        rw [if_pos (mi_217 H), m4, z, Option.bind_some, if_pos (by decide)]
    | true =>
      obtain ⟨n, hn, rfl⟩ := ma_at_ex (by decide) z
      have hn4 : n ≤ 4 := by omega
      have r0 : ¬ nI n < 0 := nI_pos (by omega)
      have r4 : nI n ≤ 4 := (lC4 (show n < 2 ^ 31 by omega)).mpr hn4
      obtain ⟨g, e3, q3, Bb⟩ := e2 _ hq
      have u0 := t241 z
      rw [e3, Option.bind_some] at u0
      dsimp only at u0
      rw [if_neg (by decide), if_pos (mi_217 Bb.1), m_200 Bb.1 Bb.2.1 O, Option.bind_some] at u0
      cases zp : ma_at p (K 0 0) with
      | false =>
        refine no g ?_ ?_ (ma_q_t hq q3)
        · rw [top, zp, if_neg (by decide)]
        · rw [u0, zp, if_neg (show ¬ (false = true) by decide), if_pos rfl]
      | true =>
        rw [zp, if_pos rfl, if_neg (by decide), m_200 Bb.1 Bb.2.1 O, Option.bind_some] at u0
        cases zq : ma_at q (K 0 0) with
        | false =>
          refine no g ?_ ?_ (ma_q_t hq q3)
          · rw [top, zp, zq, if_pos rfl, if_neg (by decide)]
          · rw [u0, zq, if_neg (show ¬ (false = true) by decide), if_pos rfl]
        | true =>
          rw [zq, if_pos rfl, if_neg (by decide)] at u0
          by_cases pq : p = q
          · refine no g ?_ ?_ (ma_q_t hq q3)
            · rw [top, zp, zq, if_pos rfl, if_pos rfl, if_pos pq]
            · rw [u0, if_neg (not_not_intro pq)]
          · obtain ⟨a, ha, rfl⟩ := ma_at_ex (by omega) zp
            obtain ⟨b, hb, rfl⟩ := ma_at_ex (by omega) zq
            have ab : a ≠ b := fun y => pq (by rw [y])
            obtain ⟨g1, c1, c2⟩ := c_115 (N := N) H V O hc ha hb ab hn4 s hN
            have H1 := ma_H_q H c2
            obtain ⟨g2, d1, d2, Bb⟩ := e2 _ (ma_q_pI c2 (by decide : ¬ ma_ps 217) 0 0)
            obtain ⟨g3, f1, f2, f3⟩ := m_241a (N := N) Bb.1 Bb.2.2.1 Bb.2.1 O ha hb ab hn4 s hN
            have H3 := ma_H_fr Bb.1 f2
            have H4 : ma_H (pb_pI g3 217 38 (-1)) := H3
            obtain ⟨g4, k1, k2, k3, k4⟩ := m_241c (N := N) (K := K) (a := a) (b := b) (h := pb_pI g3 217 38 (-1)) H4 hn4 (fun k hk => by rw [ma_Ik, if_neg (by decide)]; exact f3 k hk) (by rw [ma_Ik, if_pos rfl, if_pos rfl]) s hN
            have H5 := ma_H_fr H4 k2
            have qm : ma_q g1 g4 := by
              refine ma_q_t (ma_q_pI (ma_q_r g1) (by decide) 0 0) (ma_q_t d2 (ma_q_t (ma_q_fr f2 (by decide)) (ma_q_t (ma_q_pI (ma_q_r g3) (by decide : ¬ ma_ps 217) 38 (-1)) ?_)))
              exact ⟨k2.1, k2.2.1, fun o ho => funext fun k => k2.2.2 o k (fun z => by revert z; simp; omega) (fun z => by revert z; simp; omega)⟩
            have w0 : ri_w K a b n 0 0 = ri_v K a b n 0 (K 2 a) (K 2 b) + 1 := rfl
            have w1 : ri_I (ri_w K a b n 0 0) = mI (ri_v K a b n 0 (K 2 a) (K 2 b)) := by rw [w0]; rfl
            have wh : (if n = 0 then 0 else (ri_g (fun v => if v < 7 then ri_w K a b n 1 v else 0) true 7).2) = ri_w1 K a b n := by
              unfold ri_w1
              by_cases n0 : n = 0
              · rw [if_pos n0, if_pos n0]
              · rw [if_neg n0, if_neg n0]
                congr 1
                refine ma_fo_cong 7 (fun v p hv => ?_)
                have : (if v < 7 then ri_w K a b n 1 v else 0) = ri_e (ri_a (K 2 a)) (fun v => ri_v K a b (n - 1) 1 (ri_o (K 2 a) v) (K 2 b)) v := by
                  rw [if_pos hv]
                  unfold ri_w ri_e
                  rw [ri_m_s]
                  have : ri_m (K 2 a) (K 2 b) 0 (v / 7) = some (K 2 a, K 2 b) := rfl
                  rw [this, Option.bind_some, if_pos (by decide), Nat.mod_eq_of_lt hv]
                  cases ri_a (K 2 a) v <;> rfl
                dsimp only
                simp only [this]
            have x0 : pb_ar g4 234 12 0 := mx_234 H5 (j := 0) (by decide)
            refine ⟨if s = 0 then mI (ri_v K a b n 0 (K 2 a) (K 2 b)) else mI (ri_w1 K a b n), g1, g4, ?_, c2, ?_, qm⟩
            · rw [top, zp, zq, if_pos rfl, if_pos rfl, if_neg pq, if_neg r0, if_pos r4, c1]
              rfl
            · show f_241 N g1 217 x (nI a) (nI b) (nI n) s = _
              unfold f_241
              rw [if_pos (mi_217 H1), m4, z, Option.bind_some, if_pos rfl, if_neg (by decide), d1, Option.bind_some]
              dsimp only
              rw [if_neg (by decide), if_pos (mi_217 Bb.1), m_200 Bb.1 Bb.2.1 O, Option.bind_some, zp, if_pos rfl, if_neg (by decide), m_200 Bb.1 Bb.2.1 O, Option.bind_some, zq, if_pos rfl, if_neg (by decide), if_pos pq, m_238 hn4 hN, Option.bind_some, f1, Option.bind_some, if_pos (mi_217 H3), k1, Option.bind_some]
              by_cases s0 : s = 0
              · rw [if_pos s0, if_pos s0, if_pos (mi_217 H5), mr_217_37 H5, Option.bind_some, if_pos x0, tx_z0, k3, w1]
              · rw [if_neg s0, if_neg s0, if_pos (mi_217 H5), k4, wh]
end
