/-! after: the developers' other walks -/
section
variable {h : pb_HP} {N T l : Nat} {Y : ma_Y} {D : Nat → ma_dd} {S : ma_S} {f : Nat → Nat}
theorem c_48 (H : ma_H h) (V : ma_V h 201 S.1) (O : ma_OK S.1) {v : Int32} {i : Nat} (hv : (v = 0 ∧ i = 2) ∨ (v = 2 ∧ i = 5)) (hN : 3000 < N) : f_48 N h 200 v = some (nI (af_s S.1 i)) := by
  have t : ∀ m, m < 6 → pb_I h 203 m = nI (S.1 2 m) := V.2.2.2.2.1
  have u : ∀ m, m < 6 → pb_I h 206 m = nI (S.1 5 m) := V.2.2.2.2.2.2.2.1
  have hl : pb_wl (f_48_4s N h 200 v) N (0, 0) = some (nI (af_s S.1 i)) := by
    refine ma_lq (fun j a => (nI a, nI j)) (fun m a => a + sp_on (S.1 i m)) 6 (by omega) rfl (fun j a hj => ?_) ?_
    · have e1 : ¬ (6 : Int32) ≤ nI j := nI_ge (b := 6) hj (by decide)
      have o2 := (O.2.2.1 j).2.1
      have o5 := (O.2.2.1 j).2.2.2.2.1
      rcases hv with ⟨rfl, rfl⟩ | ⟨rfl, rfl⟩
      · simp only [f_48_4s, if_neg e1, not_true_eq_false, if_false, if_pos (mi_200 H), mr_200_0 H, Option.bind_some, if_pos (mi_201 H), mr_201_3 H, if_pos (mx_203 H hj), nI_clamp (show j < 2 ^ 31 by omega), t j hj, f_48_36, m_305 o2, nI_add, nI_1]
      · simp only [f_48_4s, if_neg e1, if_pos (show ¬ (2 : Int32) = 0 by decide), if_pos (mi_200 H), mr_200_0 H, Option.bind_some, if_pos (mi_201 H), mr_201_6 H, if_pos (mx_206 H hj), nI_clamp (show j < 2 ^ 31 by omega), u j hj, f_48_36, m_305 o5, nI_add, nI_1]
    · have e1 : (6 : Int32) ≤ nI 6 := by decide
      simp only [f_48_4s, if_pos e1]
      rfl
  unfold f_48
  rw [hl]
  rfl
theorem c_47 (hd : ∀ j, j < T → ma_dr (D j) (Y.2 j)) (eT : T = Y.1) (hY : Y.1 ≤ 40) (O : ma_SO S) (hl : l ≤ 40) (H : ma_H h) (C : ma_C h S) (L : ma_L h l 40 3 Y) {v : Int32} {i q : Nat} (hv : (v = 0 ∧ i = 2 ∧ q = 0) ∨ (v = 2 ∧ i = 5 ∧ q = 2)) (hN : 3000 < N) : ∃ g, f_47 N h 200 l v = some (nI (af_gn D S i (af_e D S T)), g) ∧ ma_fr af_L ma_cF h g := by
  have b := af_e_b D S T
  have hv2 : (v = 0 ∧ i = 2) ∨ (v = 2 ∧ i = 5) := hv.elim (fun z => .inl ⟨z.1, z.2.1⟩) (fun z => .inr ⟨z.1, z.2.1⟩)
  have vq : v = nI q ∧ q ≤ 2 := hv.elim (fun z => ⟨z.1.trans (by rw [z.2.2]; rfl), by omega⟩) (fun z => ⟨z.1.trans (by rw [z.2.2]; rfl), by omega⟩)
  have lp : ∃ x, pb_wl (f_47_12s N 200 l v) N (0, nI (af_s (af_q D S 0).1 i), 0, h) = some x ∧ (x.1 = nI (af_gn D S i (af_e D S T)) ∧ ma_fr af_L ma_cF h x.2) := by
    refine ma_lh (fun j s => s.1 = nI (af_gn D S i j) ∧ s.2.1 = nI (af_s (af_q D S j).1 i) ∧ s.2.2.1 = nI j ∧ ma_fr af_L ma_cF h s.2.2.2 ∧ ma_C s.2.2.2 (af_q D S j)) _ (af_e D S T) 0 N _ (by omega) (by omega) ⟨rfl, rfl, rfl, ma_fr_r _ _ _, C⟩ ?_ ?_
    · rintro j ⟨y1, y2, y3, g⟩ _ hj ⟨h1, h2, h3, fg, Cg⟩
      dsimp only at h1 h2 h3 fg Cg
      subst h1 h2 h3
      have Hg := ma_H_fr H fg
      have Lg := af_Lk L hl fg
      rcases af_step (N := N) hd eT hY O hN (show j ≤ af_e D S T by omega) Hg Cg Lg with ⟨_, ⟨g1, a1, a2, a3⟩, nl⟩ | ⟨q, _⟩ | ⟨q, _⟩
      · have H1 := ma_H_fr Hg a2
        have f1 := ma_fr_t fg (af_fr1 a2)
        have L1 := af_Lk L hl f1
        have z := c_48 (N := N) (S := af_q D S (j + 1)) H1 a3.1 (af_SO hd O (j + 1) (by omega)).1 hv2 hN
        have k1 : pb_I g1 (l + 1) j = nI (D j).1 := ((L1.2.2.2 j (by omega)).1).trans (hd j (by omega)).1
        have d6 := (hd j (by omega)).2.1
        have ac := af_act (hd j (by omega)) (af_SO hd O j (by omega)) (b.2.1 j hj)
        have xx := wl_x1 H1 L1.1 (by decide) (show j < 40 by omega)
        have b1 := af_s_b (af_q D S (j + 1)).1 i
        have b0 := af_s_b (af_q D S j).1 i
        left
        by_cases c : (D j).1 = q
        · by_cases c2 : af_s (af_q D S (j + 1)).1 i ≤ af_s (af_q D S j).1 i
          · refine ⟨(nI (af_gn D S i j), nI (af_s (af_q D S (j + 1)).1 i), nI (j + 1), g1), ?_, ?_, rfl, rfl, f1, a3⟩
            · simp only [f_47_12s, if_pos (wl_is Hg Lg), if_neg nl, if_pos (mi_200 Hg), a1, Option.bind_some, i10, if_false, if_pos (mi_200 H1), z, if_pos (wl_is H1 L1), wl_r1 H1 L1.1, if_pos xx, nI_clamp (show j < 2 ^ 31 by omega), k1, if_neg (not_not_intro (show nI (D j).1 = v by rw [c, vq.1])), if_pos (nI_le c2 (by omega)), nI_1]
            · dsimp only; rw [af_gn_s, if_neg (by omega)]
          · refine ⟨(nI (af_gn D S i j + 1), nI (af_s (af_q D S (j + 1)).1 i), nI (j + 1), g1), ?_, ?_, rfl, rfl, f1, a3⟩
            · simp only [f_47_12s, if_pos (wl_is Hg Lg), if_neg nl, if_pos (mi_200 Hg), a1, Option.bind_some, i10, if_false, if_pos (mi_200 H1), z, if_pos (wl_is H1 L1), wl_r1 H1 L1.1, if_pos xx, nI_clamp (show j < 2 ^ 31 by omega), k1, if_neg (not_not_intro (show nI (D j).1 = v by rw [c, vq.1])), if_neg (nI_ge (show af_s (af_q D S j).1 i < af_s (af_q D S (j + 1)).1 i by omega) (by omega)), nI_1]
            · dsimp only; rw [af_gn_s, if_pos (by omega)]
        · have le : af_s (af_q D S (j + 1)).1 i ≤ af_s (af_q D S j).1 i := by
            rcases hv with ⟨_, e2, e3⟩ | ⟨_, e2, e3⟩
            · rw [e2]; exact ac.1 (by omega)
            · rw [e2]; exact ac.2.1 (by omega)
          refine ⟨(nI (af_gn D S i j), nI (af_s (af_q D S (j + 1)).1 i), nI (j + 1), g1), ?_, ?_, rfl, rfl, f1, a3⟩
          · simp only [f_47_12s, if_pos (wl_is Hg Lg), if_neg nl, if_pos (mi_200 Hg), a1, Option.bind_some, i10, if_false, if_pos (mi_200 H1), z, if_pos (wl_is H1 L1), wl_r1 H1 L1.1, if_pos xx, nI_clamp (show j < 2 ^ 31 by omega), k1, if_pos (show ¬ nI (D j).1 = v from fun w => c ((nI_eq (show (D j).1 < 2 ^ 31 by omega) (show q < 2 ^ 31 by omega)).mp (w.trans vq.1))), nI_1]
          · dsimp only; rw [af_gn_s, if_neg (by omega)]
      · omega
      · omega
    · rintro ⟨y1, y2, y3, g⟩ ⟨h1, h2, h3, fg, Cg⟩
      dsimp only at h1 h2 h3 fg Cg
      subst h1 h2 h3
      have Hg := ma_H_fr H fg
      have Lg := af_Lk L hl fg
      rcases af_step (N := N) hd eT hY O hN (Nat.le_refl _) Hg Cg Lg with ⟨q, _⟩ | ⟨_, a1, nl⟩ | ⟨_, le⟩
      · omega
      · refine ⟨(nI (af_gn D S i (af_e D S T)), g), ?_, rfl, fg⟩
        simp only [f_47_12s, if_pos (wl_is Hg Lg), if_neg nl, if_pos (mi_200 Hg), a1, Option.bind_some, if_true]
      · refine ⟨(nI (af_gn D S i (af_e D S T)), g), ?_, rfl, fg⟩
        simp only [f_47_12s, if_pos (wl_is Hg Lg), if_pos le]
  obtain ⟨⟨r, g⟩, x1, x2, x3⟩ := lp
  dsimp only at x2 x3
  subst x2
  refine ⟨g, ?_, x3⟩
  have z : f_48 N h 200 v = some (nI (af_s (af_q D S 0).1 i)) := c_48 (N := N) (S := S) H C.1 O.1 hv2 hN
  unfold f_47
  rw [if_pos (mi_200 H), z, Option.bind_some, x1]
  rfl
theorem af_n {Y : ma_Y} (hd : ∀ j, j < T → ma_dr (D j) (Y.2 j)) (O : ma_SO S) : ∀ k, k ≤ T → (af_q D S k).1 0 1 = S.1 0 1
  | 0, _ => rfl
  | k + 1, hk => by
    have ih := af_n hd O k (by omega)
    show ((sp_act (af_q D S k) (D k)).getD (af_q D S k)).1 0 1 = _
    cases e : sp_act (af_q D S k) (D k) with
    | none => exact ih
    | some x => exact (af_act (hd k (by omega)) (af_SO hd O k (by omega)) e).2.2.2.trans ih
theorem c_45i (H : ma_H h) (C : ma_C h S) (O : ma_OK S.1) (hN : 3000 < N) : ∃ g, pb_wl (f_45_10s N 200 l) N (0, h) = some g ∧ ma_fr [211] [] h g ∧ ∀ c, c < S.1 0 1 → pb_I g 211 c = nI (sp_to S.1 c) := by
  have n6 := O.2.1
  refine ma_lh (fun j s => s.1 = nI j ∧ ma_fr [211] [] h s.2 ∧ ∀ c, c < j → pb_I s.2 211 c = nI (sp_to S.1 c)) _ (S.1 0 1) 0 N _ (by omega) (by omega) ⟨rfl, ma_fr_r _ _ _, fun c hc => absurd hc (Nat.not_lt_zero c)⟩ ?_ ?_
  · rintro j ⟨y, g⟩ _ hj ⟨hy, fg, p⟩
    dsimp only at hy fg p
    subst hy
    left
    have Hg := ma_H_fr H fg
    have V : ma_V g 201 S.1 := ma_V_e C.1 (fun o a b => ma_fr_o fg (by simp; omega) (by simp))
    have e1 : ¬ pb_I g 201 1 ≤ nI j := by rw [V.2.2.1]; exact nI_ge hj (by omega)
    have z : f_11 N g 201 (nI j) 63 = some (nI (sp_pt S.1 j 63)) := c_11 (s := 63) Hg V O (show j < 6 by omega) (by decide) hN
    refine ⟨(nI (j + 1), pb_pI g 211 j (nI (sp_pt S.1 j 63))), ?_, rfl, ma_fr_pI fg (.inl (by decide)) _, fun c hc => ?_⟩
    · simp only [f_45_10s, if_pos (mi_200 Hg), mr_200_0 Hg, Option.bind_some, if_pos (mi_201 Hg), if_neg e1, mr_200_3 Hg, z, if_pos (mx_211 Hg (show j < 6 by omega)), nI_clamp (show j < 2 ^ 31 by omega), nI_1]
    · show pb_I (pb_pI g 211 j _) 211 c = _
      rw [ma_Ik, if_pos rfl]
      by_cases q : c = j
      · rw [if_pos q, q]; unfold sp_to; rw [if_pos hj]
      · rw [if_neg q]; exact p c (by omega)
  · rintro ⟨y, g⟩ ⟨hy, fg, p⟩
    dsimp only at hy fg p
    subst hy
    have Hg := ma_H_fr H fg
    have V : ma_V g 201 S.1 := ma_V_e C.1 (fun o a b => ma_fr_o fg (by simp; omega) (by simp))
    refine ⟨g, ?_, fg, p⟩
    have e1 : pb_I g 201 1 ≤ nI (S.1 0 1) := by rw [V.2.2.1]; exact nI_le (Nat.le_refl _) (by omega)
    simp only [f_45_10s, if_pos (mi_200 Hg), mr_200_0 Hg, Option.bind_some, if_pos (mi_201 Hg), if_pos e1]
theorem c_45j {S2 : ma_S} {v : Int32} {u w : Nat → Nat} (H : ma_H h) (C : ma_C h S2) (O : ma_OK S2.1) (e1 : ∀ c, c < S2.1 0 1 → pb_I h 211 c = nI (u c)) (hu : ∀ c, u c ≤ 6) (e2 : ∀ c, c < 6 → pb_I h 210 c = nI (w c)) (hN : 3000 < N) : ∃ g, pb_wl (f_45_64s N 200 l v) N (0, h) = some g ∧ ma_fr [210, 211] [] h g ∧ (∀ c, c < S2.1 0 1 → pb_I g 211 c = nI (sp_to S2.1 c)) ∧ ∀ c, c < 6 → pb_I g 210 c = nI (if c < S2.1 0 1 ∧ sp_to S2.1 c ≠ u c then w c + 1 else w c) := by
  have n6 := O.2.1
  have lp : ∃ g, pb_wl (f_45_64s N 200 l v) N (0, h) = some g ∧ (ma_fr [210, 211] [] h g ∧ (∀ c, c < S2.1 0 1 → pb_I g 211 c = nI (if c < S2.1 0 1 then sp_to S2.1 c else u c)) ∧ ∀ c, c < 6 → pb_I g 210 c = nI (if c < S2.1 0 1 ∧ sp_to S2.1 c ≠ u c then w c + 1 else w c)) := by
    refine ma_lh (fun j s => s.1 = nI j ∧ ma_fr [210, 211] [] h s.2 ∧ (∀ c, c < S2.1 0 1 → pb_I s.2 211 c = nI (if c < j then sp_to S2.1 c else u c)) ∧ ∀ c, c < 6 → pb_I s.2 210 c = nI (if c < j ∧ sp_to S2.1 c ≠ u c then w c + 1 else w c)) _ (S2.1 0 1) 0 N _ (by omega) (by omega) ⟨rfl, ma_fr_r _ _ _, fun c hc => e1 c hc, fun c hc => ?_⟩ ?_ ?_
    · rw [if_neg (fun q => absurd q.1 (Nat.not_lt_zero c))]; exact e2 c hc
    · rintro j ⟨y, g⟩ _ hj ⟨hy, fg, p, q⟩
      dsimp only at hy fg p q
      subst hy
      left
      have Hg := ma_H_fr H fg
      have V : ma_V g 201 S2.1 := ma_V_e C.1 (fun o a b => ma_fr_o fg (by simp; omega) (by simp))
      have l1 : ¬ pb_I g 201 1 ≤ nI j := by rw [V.2.2.1]; exact nI_ge hj (by omega)
      have st : sp_to S2.1 j = sp_pt S2.1 j 63 := by unfold sp_to; rw [if_pos hj]
      have z : f_11 N g 201 (nI j) 63 = some (nI (sp_to S2.1 j)) := by rw [st]; exact c_11 (s := 63) Hg V O (show j < 6 by omega) (by decide) hN
      have pj : pb_I g 211 j = nI (u j) := by have := p j hj; rw [if_neg (Nat.lt_irrefl j)] at this; exact this
      have qj : pb_I g 210 j = nI (w j) := by have := q j (by omega); rw [if_neg (fun z => absurd z.1 (Nat.lt_irrefl j))] at this; exact this
      have t6 := sp_to_le O j
      have u6 := hu j
      by_cases c : sp_to S2.1 j = u j
      · refine ⟨(nI (j + 1), g), ?_, rfl, fg, fun d hd => ?_, fun d hd => ?_⟩
        · simp only [f_45_64s, if_pos (mi_200 Hg), mr_200_0 Hg, Option.bind_some, if_pos (mi_201 Hg), if_neg l1, z, mr_200_3 Hg, if_pos (mx_211 Hg (show j < 6 by omega)), nI_clamp (show j < 2 ^ 31 by omega), pj, c, if_true, nI_1]
        · show pb_I g 211 d = _
          rw [p d hd]
          by_cases y : d = j
          · rw [y, if_neg (Nat.lt_irrefl j), if_pos (by omega), c]
          · by_cases y2 : d < j
            · rw [if_pos y2, if_pos (by omega)]
            · rw [if_neg y2, if_neg (by omega)]
        · show pb_I g 210 d = _
          rw [q d hd]
          by_cases y : d = j
          · rw [y, if_neg (fun z => absurd z.1 (Nat.lt_irrefl j)), if_neg (fun z => z.2 c)]
          · by_cases y2 : d < j ∧ sp_to S2.1 d ≠ u d
            · rw [if_pos y2, if_pos ⟨by omega, y2.2⟩]
            · rw [if_neg y2, if_neg (fun z => y2 ⟨by omega, z.2⟩)]
      · have k0 : ∀ y, pb_I (pb_pI g 211 j y) 210 j = nI (w j) := fun y => by rw [ma_Ik, if_neg (by decide)]; exact qj
        refine ⟨(nI (j + 1), pb_pI (pb_pI g 211 j (nI (sp_to S2.1 j))) 210 j (nI (w j + 1))), ?_, rfl, ma_fr_pI (ma_fr_pI fg (.inl (by decide)) _) (.inl (by decide)) _, fun d hd => ?_, fun d hd => ?_⟩
        · simp only [f_45_64s, if_pos (mi_200 Hg), mr_200_0 Hg, Option.bind_some, if_pos (mi_201 Hg), if_neg l1, z, mr_200_3 Hg, if_pos (mx_211 Hg (show j < 6 by omega)), nI_clamp (show j < 2 ^ 31 by omega), pj, if_neg (fun y => c ((nI_eq (show sp_to S2.1 j < 2 ^ 31 by omega) (show u j < 2 ^ 31 by omega)).mp y)), mr_200_2 Hg, if_pos (mx_210 Hg (show j < 6 by omega)), k0, nI_1]
        · show pb_I (pb_pI (pb_pI g 211 j _) 210 j _) 211 d = _
          rw [ma_Ik, if_neg (by decide), ma_Ik, if_pos rfl]
          by_cases y : d = j
          · rw [if_pos y, y, if_pos (by omega)]
          · rw [if_neg y, p d hd]
            by_cases y2 : d < j
            · rw [if_pos y2, if_pos (by omega)]
            · rw [if_neg y2, if_neg (by omega)]
        · show pb_I (pb_pI (pb_pI g 211 j _) 210 j _) 210 d = _
          rw [ma_Ik, if_pos rfl]
          by_cases y : d = j
          · rw [if_pos y, y, if_pos ⟨by omega, c⟩]
          · rw [if_neg y, ma_Ik, if_neg (by decide), q d hd]
            by_cases y2 : d < j ∧ sp_to S2.1 d ≠ u d
            · rw [if_pos y2, if_pos ⟨by omega, y2.2⟩]
            · rw [if_neg y2, if_neg (fun z => y2 ⟨by omega, z.2⟩)]
    · rintro ⟨y, g⟩ ⟨hy, fg, p, q⟩
      dsimp only at hy fg p q
      subst hy
      have Hg := ma_H_fr H fg
      have V : ma_V g 201 S2.1 := ma_V_e C.1 (fun o a b => ma_fr_o fg (by simp; omega) (by simp))
      refine ⟨g, ?_, fg, p, q⟩
      have l1 : pb_I g 201 1 ≤ nI (S2.1 0 1) := by rw [V.2.2.1]; exact nI_le (Nat.le_refl _) (by omega)
      simp only [f_45_64s, if_pos (mi_200 Hg), mr_200_0 Hg, Option.bind_some, if_pos (mi_201 Hg), if_pos l1]
  obtain ⟨g, a1, a2, a3, a4⟩ := lp
  refine ⟨g, a1, a2, fun c hc => ?_, a4⟩
  have := a3 c hc
  rw [if_pos hc] at this
  exact this
theorem c_45 (hd : ∀ j, j < T → ma_dr (D j) (Y.2 j)) (eT : T = Y.1) (hY : Y.1 ≤ 40) (O : ma_SO S) (hl : l ≤ 40) (H : ma_H h) (C : ma_C h S) (L : ma_L h l 40 3 Y) (hN : 3000 < N) : ∃ g, f_45 N h 200 l = some (mI (af_mo (fun c => af_tu D S c (af_e D S T))).1, g) ∧ ma_fr af_L ma_cF h g := by
  have b := af_e_b D S T
  obtain ⟨h0, z1, z2, z3⟩ := c_306 (N := N) (h := h) (o := 210) (n := 6) H.1 (by decide) (by decide) (by decide) 0 hN
  have H0 := ma_H_fr H z2
  have f0 : ma_fr af_L ma_cF h h0 := ma_fr_w z2 (by decide) (by decide)
  have C0 : ma_C h0 S := ⟨ma_V_e C.1 (fun o a b => ma_fr_o z2 (by simp; omega) (by simp)), by rw [ma_fr_o z2 (by decide) (by decide)]; exact C.2⟩
  obtain ⟨h2, y1, y2, y3⟩ := c_45i (N := N) (l := l) H0 C0 O.1 hN
  have f2 : ma_fr af_L ma_cF h h2 := ma_fr_t f0 (ma_fr_w y2 (by decide) (by decide))
  have H2 := ma_H_fr H f2
  have C2 : ma_C h2 S := ⟨ma_V_e C0.1 (fun o a b => ma_fr_o y2 (by simp; omega) (by simp)), by rw [ma_fr_o y2 (by decide) (by decide)]; exact C0.2⟩
  have lp : ∃ x, pb_wl (f_45_45s N 200 l) N (0, h2) = some x ∧ (ma_fr af_L ma_cF h x ∧ ∀ c, c < 6 → pb_I x 210 c = nI (af_tu D S c (af_e D S T))) := by
    refine ma_lh (fun j s => s.1 = nI j ∧ ma_fr af_L ma_cF h s.2 ∧ ma_C s.2 (af_q D S j) ∧ (∀ c, c < S.1 0 1 → pb_I s.2 211 c = nI (sp_to (af_q D S j).1 c)) ∧ ∀ c, c < 6 → pb_I s.2 210 c = nI (af_tu D S c j)) _ (af_e D S T) 0 N _ (by omega) (by omega) ⟨rfl, f2, C2, y3, fun c hc => by rw [ma_fr_o y2 (by decide) (by decide)]; exact z3 c hc⟩ ?_ ?_
    · rintro j ⟨y, g⟩ _ hj ⟨hy, fg, Cg, p, q⟩
      dsimp only at hy fg Cg p q
      subst hy
      have Hg := ma_H_fr H fg
      have Lg := af_Lk L hl fg
      rcases af_step (N := N) hd eT hY O hN (show j ≤ af_e D S T by omega) Hg Cg Lg with ⟨_, ⟨g1, a1, a2, a3⟩, nl⟩ | ⟨q, _⟩ | ⟨q, _⟩
      · have H1 := ma_H_fr Hg a2
        have f1 := ma_fr_t fg (af_fr1 a2)
        have nj := af_n hd O (j + 1) (by omega)
        have nj0 := af_n hd O j (by omega)
        have Oj := (af_SO hd O j (by omega)).1
        have Ok := (af_SO hd O (j + 1) (by omega)).1
        obtain ⟨g2, w1, w2, w3, w4⟩ := c_45j (N := N) (l := l) (v := nI j) (S2 := af_q D S (j + 1)) (u := sp_to (af_q D S j).1) (w := fun c => af_tu D S c j) H1 a3 Ok (fun c hc => by rw [ma_fr_o a2 (by decide) (by decide)]; exact p c (by rw [← nj]; exact hc)) (fun c => sp_to_le Oj c) (fun c hc => by rw [ma_fr_o a2 (by decide) (by decide)]; exact q c hc) hN
        left
        refine ⟨(nI (j + 1), g2), ?_, rfl, ma_fr_t f1 (ma_fr_w w2 (by decide) (by decide)), ⟨ma_V_e a3.1 (fun o a b => ma_fr_o w2 (by simp; omega) (by simp)), ?_⟩, fun c hc => w3 c (by rw [nj]; exact hc), fun c hc => ?_⟩
        · simp only [f_45_45s, if_pos (wl_is Hg Lg), if_neg nl, if_pos (mi_200 Hg), a1, Option.bind_some, i10, if_false, w1, nI_1]
        · dsimp only; rw [ma_fr_o w2 (by decide) (by decide)]; exact a3.2
        · show pb_I g2 210 c = _
          rw [w4 c hc, af_tu_s]
          by_cases cn : c < S.1 0 1
          · by_cases ct : sp_to (af_q D S (j + 1)).1 c = sp_to (af_q D S j).1 c
            · rw [if_pos ct, if_neg (fun z => z.2 ct)]
            · rw [if_neg ct, if_pos ⟨by rw [nj]; exact cn, ct⟩]
          · have t1 : sp_to (af_q D S (j + 1)).1 c = 6 := by unfold sp_to; rw [nj, if_neg cn]
            have t0 : sp_to (af_q D S j).1 c = 6 := by unfold sp_to; rw [nj0, if_neg cn]
            rw [t1, t0, if_pos rfl, if_neg (fun z => z.2 rfl)]
      · omega
      · omega
    · rintro ⟨y, g⟩ ⟨hy, fg, Cg, p, q⟩
      dsimp only at hy fg Cg p q
      subst hy
      have Hg := ma_H_fr H fg
      have Lg := af_Lk L hl fg
      rcases af_step (N := N) hd eT hY O hN (Nat.le_refl _) Hg Cg Lg with ⟨q, _⟩ | ⟨_, a1, nl⟩ | ⟨_, le⟩
      · omega
      · refine ⟨g, ?_, fg, q⟩
        simp only [f_45_45s, if_pos (wl_is Hg Lg), if_neg nl, if_pos (mi_200 Hg), a1, Option.bind_some, if_true]
      · refine ⟨g, ?_, fg, q⟩
        simp only [f_45_45s, if_pos (wl_is Hg Lg), if_pos le]
  obtain ⟨g, x1, x2, x3⟩ := lp
  have Hg := ma_H_fr H x2
  refine ⟨g, ?_, x2⟩
  unfold f_45 f_45_128
  rw [if_pos (mi_200 H), mr_200_2 H, Option.bind_some, z1, Option.bind_some, y1, Option.bind_some, x1, Option.bind_some, if_pos (mi_200 Hg), c_46 Hg x3 (fun j _ => by have := af_tu_le (D := D) (S := S) j (af_e D S T); omega) hN]
  rfl
end
