/-! text: the model's deeds and facts, and all lines -/
theorem ma_fr_s {L : List Nat} {F : List (Nat × Nat)} {h g : pb_HP} (f : ma_fr L F h g) : ma_fr L F g h := ⟨f.1.symm, f.2.1.symm, fun o k a b => (f.2.2 o k a b).symm⟩
section
variable {h : pb_HP} {N n e l b s : Nat} {B : Nat → Int32} {p : Nat × Nat} {D : tx_T}
theorem m_190 {at' : Nat} (h5 : 5 ≤ l) (h12 : l < 12) (J : tx_J h B n e at' 1 p D) (hB : ∀ j, j < n → (B j).toInt8.toInt32 = B j) (hn : n ≤ 600) (he : e ≤ n) (hN : 3000 < N) : ∃ r g, f_190 N h 217 (tx_w l) (nI at') = some (r, g) ∧ tx_O h g B n e l 1 (if tx_fu D l then sp_bl p 3 at' else p) D r := by
  obtain ⟨E, e9, ha, P, e22, W, Nn, G⟩ := J
  have H := E.1
  have dl : ∀ l, l < 12 → 5 ≤ l → f_189 217 (tx_w l) = some (nI (l - 5)) := by decide +kernel
  have dl := dl l h12 h5
  have Ta : ∀ l, l < 12 → 5 ≤ l → ((l < 8 ∧ sp_nc l = 2) ∨ (l = 8 ∧ sp_nc l = 3) ∨ (l = 9 ∧ sp_nc l = 1) ∨ (10 ≤ l ∧ sp_nc l = 0)) := by decide +kernel
  have Tb : ∀ l, l < 12 → 5 ≤ l → tx_lo l 0 = 0 ∧ tx_lo l 1 = 0 ∧ (¬ l = 8 ∨ (tx_lo l 2 = 1 ∧ tx_hi l 2 = 9)) := by decide +kernel
  have Tc : ∀ l, l < 12 → 5 ≤ l → (10 ≤ l ∨ tx_hi l 0 = 5) ∧ (9 ≤ l ∨ tx_hi l 1 = 5) := by decide +kernel
  have T0 := Ta l h12 h5
  obtain ⟨T1, T2, T3⟩ := Tb l h12 h5
  obtain ⟨T4, T5⟩ := Tc l h12 h5
  obtain ⟨a, a40, ea⟩ := W.2.1 rfl
  have cnt : p.1 = 0 → a = D.2.2.1.1 := fun z => by
    have := ((Nn z).2.1 rfl).1
    exact (nI_eq (by omega) (by have := G.2.2.2.2.2.2.2.1.1; omega)).mp (ea.symm.trans this)
  have fu : tx_fu D l = decide (40 ≤ D.2.2.1.1) := by unfold tx_fu; rw [if_neg (by omega), if_neg (by omega), if_neg (by omega), if_pos h12]
  obtain ⟨g1, y1, y2, y3⟩ := m_184 (c := 0) (most := 40) (q := at') H (by decide) ea a40 (by decide) P (by omega)
  rw [tx_full (l := l) (D := D) (fun z => by rw [cnt z, fu]; simp)] at y3
  have y1 : f_184 h 217 0 40 (nI at') = some g1 := y1
  have H1 := ma_H_fr H y2
  generalize hp' : (if tx_fu D l then sp_bl p 3 at' else p) = p' at y3 ⊢
  obtain ⟨g2, z1, R0⟩ := m_st (N := N) (l := l) (b := 1) (p := p') (h := g1) h (ma_fr_w y2 (by decide) (by decide)) (tx_E_fr E y2 (by decide) (by decide) (by decide) (by decide)) hB hn he (by rw [y2.2.2 217 9 (by decide) (by decide)]; exact e9) (tx_P_m y3 (by omega)) (by rw [y2.2.2 217 22 (by decide) (by decide)]; exact e22) (y2.2.2 217 20 (by decide) (by decide)) (y2.2.2 217 21 (by decide) (by decide)) (ma_fr_o y2 (by decide) (by decide)) hN
  have H2 := R0.2.1.1
  obtain ⟨h0, e0⟩ : ∃ g, g = pb_pI (pb_pI (pb_pI h 227 1 (-1)) 227 2 (-1)) 227 3 (-1) := ⟨_, rfl⟩
  obtain ⟨g3, e3⟩ : ∃ g, g = pb_pI (pb_pI (pb_pI g2 227 1 (-1)) 227 2 (-1)) 227 3 (-1) := ⟨_, rfl⟩
  have fh : ma_fr [] tx_fl h h0 := by rw [e0]; exact ma_fr_pI (ma_fr_pI (ma_fr_pI (ma_fr_r _ _ _) (.inr (by decide)) _) (.inr (by decide)) _) (.inr (by decide)) _
  have fg : ma_fr [] tx_fl g2 g3 := by rw [e3]; exact ma_fr_pI (ma_fr_pI (ma_fr_pI (ma_fr_r _ _ _) (.inr (by decide)) _) (.inr (by decide)) _) (.inr (by decide)) _
  have c3 : ∀ k, pb_I g3 217 k = pb_I g2 217 k := fun k => by rw [e3, ma_Ik, if_neg (by decide), ma_Ik, if_neg (by decide), ma_Ik, if_neg (by decide)]
  have c0 : ∀ k, pb_I h0 217 k = pb_I h 217 k := fun k => by rw [e0, ma_Ik, if_neg (by decide), ma_Ik, if_neg (by decide), ma_Ik, if_neg (by decide)]
  have n0 : ∀ k, 1 ≤ k → k < 4 → pb_I h0 227 k = -1 := fun k p q => by
    rw [e0, ma_Ik, if_pos rfl]
    by_cases z : k = 3
    · rw [if_pos z]
    · rw [if_neg z, ma_Ik, if_pos rfl]
      by_cases z : k = 2
      · rw [if_pos z]
      · rw [if_neg z, ma_Ik, if_pos rfl, if_pos (by omega)]
  have R : tx_R h0 g3 B n e l 1 0 p' := by
    refine ⟨ma_fr_t (ma_fr_s fh) (ma_fr_t R0.1 fg), tx_E_fr R0.2.1 fg (by decide) (by decide) (by decide) (by decide), tx_M_e R0.2.2.1 c3 (by rw [e3]; rfl), tx_P_e R0.2.2.2.1 (c3 16) (c3 17), ?_, fun j hj => absurd hj (Nat.not_lt_zero j), fun j hj => absurd hj (Nat.not_lt_zero j), ?_, ?_, fun j hj => ?_⟩
    · rw [c3]; exact R0.2.2.2.2.1
    · rw [c3, c0]; exact R0.2.2.2.2.2.2.2.1
    · rw [c3, c0]; exact R0.2.2.2.2.2.2.2.2.1
    · have := R0.2.2.2.2.2.2.2.2.2 j hj
      rw [e3, e0]
      simp only [ma_Ik, if_true, this]
  have fin : ∀ g, tx_R h0 g B n e l 1 (sp_nc l) p' → ∃ r g', f_190_102 N g 217 (nI (l - 5)) = some (r, g') ∧ tx_O h g' B n e l 1 p' D r := fun g Rg => by
    have Hg := Rg.2.1.1
    have x0 : pb_ar g 227 12 0 := mx_227 Hg (j := 0) (by decide)
    have u := sp_nb_u (c := sp_nc l) Rg.2.2.2.2.2.2.1 (fun q => absurd q (Nat.lt_irrefl _)) (Nat.le_refl _)
    obtain ⟨g', w1, w2, w3, w4, w5, w6⟩ := m_keep (N := N) (h := h) (w := 4) (most := 40) (q := l - 5) (Y := D.2.2.1) (d := tx_dd (l - 5) (sp_vl B n e) (sp_nc l)) Rg fh ea a40 (by decide) (by decide) (by decide) (fun i hi => by
      rw [ma_Ik, if_pos rfl]
      unfold tx_dd
      by_cases z : i = 0
      · rw [if_pos z, if_pos z]
      · rw [if_neg z, if_neg z]
        unfold tx_nu
        by_cases y : i - 1 < sp_nc l
        · rw [if_pos y]
          have := Rg.2.2.2.2.2.1 (i - 1) y
          rw [show 1 + (i - 1) = i by omega] at this
          exact this
        · rw [if_neg y, Rg.2.2.2.2.2.2.2.2.2 i (by omega)]; exact n0 i (by omega) hi) hN
    have w1 : f_188 N (pb_pI g 227 0 (nI (l - 5))) 217 4 40 = some g' := w1
    unfold f_190_102
    rw [if_pos (mi_217 Hg), mr_217_19 Hg, Option.bind_some, if_pos x0, tx_z0, w1, Option.bind_some]
    refine ⟨1, g', rfl, w2, .inr ⟨rfl, u, w3, w4, ⟨fun q => absurd q (by decide), fun _ => w5, fun q => absurd q (by decide)⟩, fun q => ⟨fun q => absurd q (by decide), fun _ => ?_, fun q => absurd q (by decide)⟩⟩⟩
    have q1 := (sp_fn_0 _ q).1
    rw [← hp'] at q1
    have q2 := tx_q0 q1
    have q3 := q2.2
    rw [fu] at q3
    have us : tx_st l (sp_vl B n e) D = (D.1, D.2.1, tx_row D.2.2.1 (tx_dd (l - 5) (sp_vl B n e) (sp_nc l)), D.2.2.2) := (if_neg (by omega)).trans ((if_neg (by omega)).trans ((if_neg (by omega)).trans ((if_neg (by omega)).trans ((if_neg (by omega)).trans (if_pos h12)))))
    rw [us]
    have ca := cnt q2.1
    exact w6 (by simp at q3; omega) ca ((Nn q2.1).2.1 rfl)
  have O0 : ∀ g, ma_fr [] tx_fl h0 g → sp_nb B n e (sp_nc l) < sp_nc l → pb_I g 217 15 = nI (sp_tn B n e (sp_nb B n e (sp_nc l))).2.1 → tx_O h g B n e l 1 p' D 0 := fun g f c w => tx_R_O0 (ma_fr_t fh f) c w
  have stB : ∀ g, (l < 9 → tx_R h0 g B n e l 1 2 p') → (9 ≤ l → tx_R h0 g B n e l 1 (sp_nc l) p') → ∃ r g', f_190_83 N g 217 (nI (l - 5)) = some (r, g') ∧ tx_O h g' B n e l 1 p' D r := fun g R1 R2 => by
    unfold f_190_83
    by_cases d : l = 8
    · have RR := R1 (by omega)
      have Hg := RR.2.1.1
      have t3 := T3.resolve_left (not_not_intro d)
      rw [if_neg (not_not_intro (show nI (l - 5) = 3 by rw [d]; rfl)), if_pos (mi_217 Hg)]
      rcases m_tk2 (N := N) (kk := 3) (lo := 1) (hi := 9) RR hB hn he (by omega) (by omega) (by decide) hN rfl (by rw [t3.1]; rfl) (by rw [t3.2]; rfl) with ⟨_, g4, w1, R4⟩ | ⟨g4, w1, w2, w3, w4⟩
      · rw [w1, Option.bind_some]
        dsimp only
        rw [if_pos (by decide)]
        exact fin g4 (by rw [show sp_nc l = 2 + 1 by omega]; exact R4)
      · rw [w1, Option.bind_some]
        exact ⟨0, g4, rfl, O0 g4 w2 w3 w4⟩
    · rw [if_pos (fun z => d (by have := (lE3 (show l - 5 < 2 ^ 31 by omega)).mp z; omega))]
      by_cases d9 : l < 9
      · exact fin g (by rw [show sp_nc l = 2 by omega]; exact R1 d9)
      · exact fin g (R2 (by omega))
  have stC : ∀ g, (l < 9 → tx_R h0 g B n e l 1 1 p') → (9 ≤ l → tx_R h0 g B n e l 1 (sp_nc l) p') → ∃ r g', f_190_67 N g 217 (nI (l - 5)) = some (r, g') ∧ tx_O h g' B n e l 1 p' D r := fun g R1 R2 => by
    unfold f_190_67
    by_cases d : l < 9
    · have RR := R1 d
      have Hg := RR.2.1.1
      have t5 := T5.resolve_left (by omega)
      rw [if_neg ((not_congr (lA4 (show l - 5 < 2 ^ 31 by omega))).mpr (by omega)), if_pos (mi_217 Hg)]
      rcases m_tk2 (N := N) (kk := 2) (lo := 0) (hi := 5) RR hB hn he (by omega) (by omega) (by decide) hN rfl (by rw [T2]; rfl) (by rw [t5]; rfl) with ⟨_, g4, w1, R4⟩ | ⟨g4, w1, w2, w3, w4⟩
      · rw [w1, Option.bind_some]
        dsimp only
        rw [if_neg (by decide)]
        exact stB g4 (fun _ => R4) (fun q => absurd q (by omega))
      · rw [w1, Option.bind_some]
        exact ⟨0, g4, rfl, O0 g4 w2 w3 w4⟩
    · rw [if_pos ((lA4 (show l - 5 < 2 ^ 31 by omega)).mpr (by omega))]
      exact stB g (fun q => absurd q d) R2
  have x1 : pb_ar g2 227 12 1 := mx_227 H2 (j := 1) (by decide)
  have x2 : pb_ar g2 227 12 2 := mx_227 H2 (j := 2) (by decide)
  have x3 : pb_ar g2 227 12 3 := mx_227 H2 (j := 3) (by decide)
  have z3 : (3 : Int32).toNatClampNeg = 3 := by decide
  unfold f_190
  rw [if_pos (mi_217 H), dl, Option.bind_some, if_pos (fun z => (mF _ (show l - 5 < 2 ^ 31 by omega)).mp z), y1, Option.bind_some, if_pos (mi_217 H1), z1, Option.bind_some, if_pos (mi_217 H2), mr_217_19 H2, Option.bind_some, if_pos x1, if_pos x2, if_pos x3, tx_z1, tx_z2, z3, ← e3]
  by_cases d : l < 10
  · have t4 := T4.resolve_left (by omega)
    rw [if_neg ((not_congr (lA5 (show l - 5 < 2 ^ 31 by omega))).mpr (by omega))]
    rcases m_tk2 (N := N) (kk := 1) (lo := 0) (hi := 5) R hB hn he (by omega) (by omega) (by decide) hN rfl (by rw [T1]; rfl) (by rw [t4]; rfl) with ⟨_, g4, w1, R4⟩ | ⟨g4, w1, w2, w3, w4⟩
    · rw [w1, Option.bind_some]
      dsimp only
      rw [if_neg (by decide)]
      exact stC g4 (fun _ => R4) (fun q => by rw [show sp_nc l = 0 + 1 by omega]; exact R4)
    · rw [w1, Option.bind_some]
      exact ⟨0, g4, rfl, O0 g4 w2 w3 w4⟩
  · rw [if_pos ((lA5 (show l - 5 < 2 ^ 31 by omega)).mpr (by omega))]
    exact stC g3 (fun q => absurd q (by omega)) (fun q => by rw [show sp_nc l = 0 by omega]; exact R)
theorem m_190n {q : Nat} {v : Int64} (H : ma_H h) (e11 : pb_I h 217 11 = nI q) (ne : ∀ l, 5 ≤ l → l < 12 → ¬ v = tx_w l) (x : Int32) : ∃ g, f_190 N h 217 v x = some (0, g) ∧ ma_fr [] [(217, 15)] h g ∧ pb_I g 217 15 = nI q := by
  have W : tx_w 5 = 1936224119 ∧ tx_w 6 = 1751737445 ∧ tx_w 7 = 495588569701 ∧ tx_w 8 = 500135453044 ∧ tx_w 9 = 7304564 ∧ tx_w 10 = 1885954923 ∧ tx_w 11 = 2036687218 := by decide +kernel
  obtain ⟨W5, W6, W7, W8, W9, W10, W11⟩ := W
  have dn : f_189 217 v = some (-1) := by
    unfold f_189
    rw [if_pos (fun z => ne 5 (by decide) (by decide) (((tx_cmp _ _).mp z).trans W5.symm)), if_pos (fun z => ne 6 (by decide) (by decide) (((tx_cmp _ _).mp z).trans W6.symm)), if_pos (fun z => ne 7 (by decide) (by decide) (((tx_cmp _ _).mp z).trans W7.symm)), if_pos (fun z => ne 8 (by decide) (by decide) (((tx_cmp _ _).mp z).trans W8.symm)), if_pos (fun z => ne 9 (by decide) (by decide) (((tx_cmp _ _).mp z).trans W9.symm)), if_pos (fun z => ne 10 (by decide) (by decide) (((tx_cmp _ _).mp z).trans W10.symm)), if_pos (fun z => ne 11 (by decide) (by decide) (((tx_cmp _ _).mp z).trans W11.symm))]
  obtain ⟨g, a1, a2, a3⟩ := m_181 H e11
  refine ⟨g, ?_, a2, a3⟩
  unfold f_190
  rw [if_pos (mi_217 H), dn, Option.bind_some, if_neg (not_not_intro rfl), a1]
  rfl
theorem m_191 {at' : Nat} (h12 : 12 ≤ l) (h14 : l < 14) (J : tx_J h B n e at' 2 p D) (hB : ∀ j, j < n → (B j).toInt8.toInt32 = B j) (hn : n ≤ 600) (he : e ≤ n) (hN : 3000 < N) : ∃ r g, f_191 N h 217 (tx_w l) (nI at') = some (r, g) ∧ tx_O h g B n e l 2 (if tx_fu D l then sp_bl p 3 at' else p) D r := by
  obtain ⟨E, e9, ha, P, e22, W, Nn, G⟩ := J
  have H := E.1
  have T : ∀ l, l < 14 → 12 ≤ l → sp_nc l = 2 ∧ tx_lo l 0 = 0 ∧ tx_lo l 1 = 0 ∧ tx_hi l 0 = 63 ∧ tx_hi l 1 = 63 ∧ (lg_cmp (tx_w l) 31650977226781299 = 0 ↔ l = 12) ∧ (lg_cmp (tx_w l) 7237492 = 0 ↔ l = 13) := by decide +kernel
  obtain ⟨T0, T1, T2, T3, T4, T5, T6⟩ := T l h14 h12
  obtain ⟨a, a8, ea⟩ := W.2.2 rfl
  have cnt : p.1 = 0 → a = D.2.2.2.1 := fun z => by
    have := ((Nn z).2.2 rfl).1
    exact (nI_eq (by omega) (by have := G.2.2.2.2.2.2.2.2.1; omega)).mp (ea.symm.trans this)
  have fu : tx_fu D l = decide (8 ≤ D.2.2.2.1) := by unfold tx_fu; rw [if_neg (by omega), if_neg (by omega), if_neg (by omega), if_neg (by omega)]
  obtain ⟨g1, y1, y2, y3⟩ := m_184 (c := 0) (most := 8) (q := at') H (by decide) ea a8 (by decide) P (by omega)
  rw [tx_full (l := l) (D := D) (fun z => by rw [cnt z, fu]; simp)] at y3
  have y1 : f_184 h 217 0 8 (nI at') = some g1 := y1
  have H1 := ma_H_fr H y2
  generalize hp' : (if tx_fu D l then sp_bl p 3 at' else p) = p' at y3 ⊢
  obtain ⟨g2, z1, R0⟩ := m_st (N := N) (l := l) (b := 1) (p := p') (h := g1) h (ma_fr_w y2 (by decide) (by decide)) (tx_E_fr E y2 (by decide) (by decide) (by decide) (by decide)) hB hn he (by rw [y2.2.2 217 9 (by decide) (by decide)]; exact e9) (tx_P_m y3 (by omega)) (by rw [y2.2.2 217 22 (by decide) (by decide)]; exact e22) (y2.2.2 217 20 (by decide) (by decide)) (y2.2.2 217 21 (by decide) (by decide)) (ma_fr_o y2 (by decide) (by decide)) hN
  have H2 := R0.2.1.1
  have body : ∃ r g, f_191_21 N h 217 (tx_w l) (nI at') = some (r, g) ∧ tx_O h g B n e l 2 p' D r := by
    unfold f_191_21
    rw [if_pos (mi_217 H), y1, Option.bind_some, if_pos (mi_217 H1), z1, Option.bind_some, if_pos (mi_217 H2)]
    rcases m_tk2 (N := N) (kk := 1) (lo := 0) (hi := 63) R0 hB hn he (by omega) (by omega) (by decide) hN rfl (by rw [T1]; rfl) (by rw [T3]; rfl) with ⟨_, g3, w1, R1⟩ | ⟨g3, w1, w2, w3, w4⟩
    · have H3 := R1.2.1.1
      rw [w1, Option.bind_some]
      dsimp only
      rw [if_neg (by decide), if_pos (mi_217 H3)]
      rcases m_tk2 (N := N) (kk := 2) (lo := 0) (hi := 63) R1 hB hn he (by omega) (by omega) (by decide) hN rfl (by rw [T2]; rfl) (by rw [T4]; rfl) with ⟨_, g, w2, R2⟩ | ⟨g4, w2, w3, w4, w5⟩
      · have Hg := R2.2.1.1
        have Rg : tx_R h g B n e l 1 (sp_nc l) p' := by rw [T0]; exact R2
        have x0 : pb_ar g 227 12 0 := mx_227 Hg (j := 0) (by decide)
        have u := sp_nb_u (c := sp_nc l) Rg.2.2.2.2.2.2.1 (fun q => absurd q (Nat.lt_irrefl _)) (Nat.le_refl _)
        obtain ⟨g', w1, w2', w3, w4, w5, w6⟩ := m_keep (N := N) (h := h) (w := 3) (most := 8) (q := l - 12) (Y := D.2.2.2) (d := tx_dd (l - 12) (sp_vl B n e) (sp_nc l)) Rg (ma_fr_r _ _ _) ea a8 (by decide) (by decide) (by decide) (fun i hi => by
          rw [ma_Ik, if_pos rfl]
          unfold tx_dd
          by_cases z : i = 0
          · rw [if_pos z, if_pos z]
          · rw [if_neg z, if_neg z]
            unfold tx_nu
            rw [if_pos (by omega)]
            have := Rg.2.2.2.2.2.1 (i - 1) (by omega)
            rw [show 1 + (i - 1) = i by omega] at this
            exact this) hN
        have w1 : f_188 N (pb_pI g 227 0 (nI (l - 12))) 217 3 8 = some g' := w1
        have fin : ∀ x : Int32, x = nI (l - 12) → ∃ r g'', f_191_75 N g 217 x 0 227 = some (r, g'') ∧ tx_O h g'' B n e l 2 p' D r := fun x ex => by
          subst ex
          unfold f_191_75
          rw [if_pos x0, if_pos (mi_217 Hg), tx_z0, w1, Option.bind_some]
          refine ⟨1, g', rfl, w2', .inr ⟨rfl, u, w3, w4, ⟨fun q => absurd q (by decide), fun q => absurd q (by decide), fun _ => w5⟩, fun q => ⟨fun q => absurd q (by decide), fun q => absurd q (by decide), fun _ => ?_⟩⟩⟩
          have q1 := (sp_fn_0 _ q).1
          rw [← hp'] at q1
          have q2 := tx_q0 q1
          have q3 := q2.2
          rw [fu] at q3
          have us : tx_st l (sp_vl B n e) D = (D.1, D.2.1, D.2.2.1, tx_row D.2.2.2 (tx_dd (l - 12) (sp_vl B n e) (sp_nc l))) := (if_neg (by omega)).trans ((if_neg (by omega)).trans ((if_neg (by omega)).trans ((if_neg (by omega)).trans ((if_neg (by omega)).trans (if_neg (by omega))))))
          rw [us]
          have ca := cnt q2.1
          exact w6 (by simp at q3; omega) ca ((Nn q2.1).2.2 rfl)
        rw [w2, Option.bind_some]
        dsimp only
        rw [if_pos (by decide), if_pos (mi_217 Hg), mr_217_19 Hg, Option.bind_some]
        by_cases d : l = 12
        · rw [if_neg (not_not_intro (T5.mpr d))]
          exact fin 0 (by rw [d]; rfl)
        · rw [if_pos (fun z => d (T5.mp z))]
          exact fin 1 (by rw [show l - 12 = 1 by omega]; rfl)
      · rw [w2, Option.bind_some]
        exact ⟨0, g4, rfl, tx_R_O0 w3 w4 w5⟩
    · rw [w1, Option.bind_some]
      exact ⟨0, g3, rfl, tx_R_O0 w2 w3 w4⟩
  unfold f_191
  by_cases d : l = 12
  · rw [if_pos (T5.mpr d)]; exact body
  · rw [if_neg (fun z => d (T5.mp z)), if_pos (T6.mpr (by omega))]; exact body
theorem m_191n {q : Nat} {v : Int64} (H : ma_H h) (e11 : pb_I h 217 11 = nI q) (ne : ∀ l, 12 ≤ l → l < 14 → ¬ v = tx_w l) (x : Int32) : ∃ g, f_191 N h 217 v x = some (0, g) ∧ ma_fr [] [(217, 15)] h g ∧ pb_I g 217 15 = nI q := by
  have W : tx_w 12 = 31650977226781299 ∧ tx_w 13 = 7237492 := by decide +kernel
  obtain ⟨g, a1, a2, a3⟩ := m_181 H e11
  refine ⟨g, ?_, a2, a3⟩
  unfold f_191
  rw [if_neg (fun z => ne 12 (by decide) (by decide) (((tx_cmp _ _).mp z).trans W.1.symm)), if_neg (fun z => ne 13 (by decide) (by decide) (((tx_cmp _ _).mp z).trans W.2.symm)), if_pos (mi_217 H), a1]
  rfl
end
