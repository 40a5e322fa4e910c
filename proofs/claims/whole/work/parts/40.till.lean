/-! Queries: till, state, drawn. -/
theorem ma_dds {Y : ma_Y} (hg : ∀ j, j < Y.1 → ma_gd (Y.2 j)) : ∃ D : Nat → ma_dd, ∀ j, j < Y.1 → ma_dr (D j) (Y.2 j) := by
  refine (Classical.skolem (b := fun _ => ma_dd) (p := fun j d => j < Y.1 → ma_dr d (Y.2 j))).mp (fun j => ?_)
  by_cases hj : j < Y.1
  · obtain ⟨d, hd⟩ := ma_dr_ex (hg j hj)
    exact ⟨d, fun _ => hd⟩
  · exact ⟨(0, 0, 0, 0), fun z => absurd z hj⟩
section
variable {h : pb_HP} {N : Nat}
theorem ma_tell {S : ma_S} (O : ma_OK S.1) (hN : 3000 < N) (w : Int32) : ∃ r, (∀ h, ma_H h → ma_C h S → ∃ g, f_37 N h 200 w = some (r, g) ∧ ma_q h g) ∧ ∀ h, ma_H h → ma_D h S → ∃ g, f_226 N h 217 w = some (r, g) ∧ ma_q h g := by
  by_cases hw : w < 0
  · exact ⟨-1, fun h H C => ⟨h, c_37n w hw, ma_q_r h⟩, fun h H D => ⟨h, m_226n H w hw, ma_q_r h⟩⟩
  · obtain ⟨n, hn, rfl⟩ := nI_of hw
    refine ⟨sp_tl S n, fun h H C => ?_, fun h H D => ?_⟩
    · obtain ⟨g, a1, a2⟩ := c_37 (N := N) H C O hN hn
      exact ⟨g, a1, ma_q_fr a2 (by decide)⟩
    · obtain ⟨g, a1, a2⟩ := m_226 (N := N) H D O hN hn
      exact ⟨g, a1, ma_q_fr a2 (by decide)⟩
/-- the model lays a county and a year -/
theorem ma_la {x : Int32} {k : Nat} {Y : ma_Y} {K : ma_K} (H : ma_H h) (hk : k < 2) (y2 : ∀ g, ma_q h g → f_214 g 217 (nI k) = some (1, pb_pI g 217 36 (nI k)) ∧ ma_Ly g 224 (161 * k) 4 Y) (e2 : ∀ g, ma_q h g → ∃ g2, f_198 N g 217 x = some (1, g2) ∧ ma_q g g2 ∧ ma_B g2 K ∧ pb_I g2 217 36 = pb_I g 217 36) {g : pb_HP} (qg : ma_q h g) : ∃ g2, f_223 N (pb_pI g 217 0 0) 217 x (nI k) = some (1, g2) ∧ ma_q g g2 ∧ ma_B g2 K ∧ ma_yv g2 k Y := by
  have q1 : ma_q h (pb_pI g 217 0 0) := ma_q_pI qg (by decide) 0 0
  have q2 : ma_q h (pb_pI (pb_pI g 217 0 0) 217 36 (nI k)) := ma_q_pI q1 (by decide) _ _
  have Hg := ma_H_q H qg
  have hi : pb_is (pb_pI g 217 0 0) 217 11 := mi_217 Hg
  have hi3 : pb_is (pb_pI (pb_pI g 217 0 0) 217 36 (nI k)) 217 11 := mi_217 Hg
  obtain ⟨g2, a1, a2, a3, a4⟩ := e2 _ q2
  refine ⟨g2, ?_, ma_q_t (ma_q_pI (ma_q_pI (ma_q_r g) (by decide) 0 0) (by decide) _ _) a2, a3, hk, ?_, (y2 _ (ma_q_t q2 a2)).2⟩
  · simp only [f_223, if_pos hi, (y2 _ q1).1, Option.bind_some, i10, if_false, if_pos hi3, a1]
  · rw [a4, ma_Ik, if_pos rfl, if_pos rfl]
theorem q_till (I : ma_INV h) (hN : 3000 < N) (x y : Int32) : ma_Q h (f_130 N h 0 x y) (fun g => f_224 N g 217 x y) := by
  have H := I.1
  have hq : ma_q h (pb_pI h 217 0 0) := ma_q_pI (ma_q_r h) (by decide) 0 0
  have hi : pb_is (pb_pI h 217 0 0) 217 11 := mi_217 H
  rcases ma_W1 I hN x with ⟨e1, e2⟩ | ⟨c, K, e1, hc, O, OT, V, e2⟩ <;> rcases ma_Wy I y with ⟨y1, y2⟩ | ⟨k, Y, hk, rfl, y1, L, hY, hg, y2⟩
  · have h3 : f_223 N (pb_pI h 217 0 0) 217 x y = some (0, pb_pI (pb_pI h 217 0 0) 217 36 y) := by simp only [f_223, if_pos hi, y2 _ hq, Option.bind_some, if_true]
    exact ⟨-1, h, pb_pI (pb_pI h 217 0 0) 217 36 y, by simp only [f_130, if_pos (mi_0 H), mr_0_0 H, Option.bind_some, if_pos (mi_1 H), e1, y1], ma_q_r h, by simp only [f_224, if_pos (mi_217 H), h3, Option.bind_some, if_true], ma_q_pI hq (by decide) _ _⟩
  · have hq3 : ma_q h (pb_pI (pb_pI h 217 0 0) 217 36 (nI k)) := ma_q_pI hq (by decide) _ _
    have hi3 : pb_is (pb_pI (pb_pI h 217 0 0) 217 36 (nI k)) 217 11 := hi
    have h3 : f_223 N (pb_pI h 217 0 0) 217 x (nI k) = some (0, pb_pI (pb_pI h 217 0 0) 217 36 (nI k)) := by simp only [f_223, if_pos hi, (y2 _ hq).1, Option.bind_some, i10, if_false, if_pos hi3, e2 _ hq3, if_true]
    exact ⟨-1, h, _, by simp only [f_130, if_pos (mi_0 H), mr_0_0 H, Option.bind_some, if_pos (mi_1 H), e1, y1], ma_q_r h, by simp only [f_224, if_pos (mi_217 H), h3, Option.bind_some, if_true], hq3⟩
  · have h3 : f_223 N (pb_pI h 217 0 0) 217 x y = some (0, pb_pI (pb_pI h 217 0 0) 217 36 y) := by simp only [f_223, if_pos hi, y2 _ hq, Option.bind_some, if_true]
    exact ⟨-1, h, pb_pI (pb_pI h 217 0 0) 217 36 y, by simp only [f_130, if_pos (mi_0 H), mr_0_0 H, Option.bind_some, if_pos (mi_1 H), e1, y1], ma_q_r h, by simp only [f_224, if_pos (mi_217 H), h3, Option.bind_some, if_true], ma_q_pI hq (by decide) _ _⟩
  · obtain ⟨D, hD⟩ := ma_dds hg
    have SO := ma_SO0 O OT
    obtain ⟨g1, b1, b2, b3⟩ := c_28 H V O hc
    have H1 := ma_H_fr H b2
    have L1 := ma_L_cL L (by omega) b2
    obtain ⟨g2, b4, b5, b6⟩ := c_29 (N := N) (by omega) hY (Nat.le_refl _) hD hN H1 b3 SO L1
    have qg : ma_q h g2 := ma_q_t (ma_cq b2) (ma_cq b5)
    obtain ⟨g3, m1, m2, m3, m4⟩ := ma_la (N := N) H hk y2 e2 qg
    have sz := m_szy m3.1 m4.1 m4.2.1 m4.2.2
    obtain ⟨g4, m5, m6, m7⟩ := m_222 (N := N) hY (Nat.le_refl _) hD hN m3.1 (ma_D0 m3) SO m4
    refine ⟨nI (sp_end D Y.1 0 (K, 0, 6, 0, 0)).1, g2, g4, ?_, qg, ?_, ma_q_t m2 (ma_dq m6)⟩
    · simp only [f_130, if_pos (mi_0 H), mr_0_0 H, Option.bind_some, if_pos (mi_1 H), e1, y1, mr_0_8 H, if_pos (mi_200 H), b1, if_pos (mi_0 H1), mr_0_8 H1, if_pos (wl_is H1 L1), if_pos (mi_200 H1), L1.2.1, b4]
    · simp only [f_224, if_pos (mi_217 (ma_H_q H qg)), m1, Option.bind_some, i10, if_false, if_pos (mi_217 m3.1), sz, m5]
theorem q_state (I : ma_INV h) (hN : 3000 < N) (x y z w : Int32) : ma_Q h (f_131 N h 0 x y z w) (fun g => f_227 N g 217 x y z w) := by
  have H := I.1
  have hq : ma_q h (pb_pI h 217 0 0) := ma_q_pI (ma_q_r h) (by decide) 0 0
  have hi : pb_is (pb_pI h 217 0 0) 217 11 := mi_217 H
  rcases ma_W1 I hN x with ⟨e1, e2⟩ | ⟨c, K, e1, hc, O, OT, V, e2⟩ <;> rcases ma_Wy I y with ⟨y1, y2⟩ | ⟨k, Y, hk, rfl, y1, L, hY, hg, y2⟩
  · have h3 : f_223 N (pb_pI h 217 0 0) 217 x y = some (0, pb_pI (pb_pI h 217 0 0) 217 36 y) := by simp only [f_223, if_pos hi, y2 _ hq, Option.bind_some, if_true]
    exact ⟨-1, h, pb_pI (pb_pI h 217 0 0) 217 36 y, by simp only [f_131, if_pos (mi_0 H), mr_0_0 H, Option.bind_some, if_pos (mi_1 H), e1, y1], ma_q_r h, by simp only [f_227, if_pos (mi_217 H), h3, Option.bind_some, if_true], ma_q_pI hq (by decide) _ _⟩
  · have hq3 : ma_q h (pb_pI (pb_pI h 217 0 0) 217 36 (nI k)) := ma_q_pI hq (by decide) _ _
    have hi3 : pb_is (pb_pI (pb_pI h 217 0 0) 217 36 (nI k)) 217 11 := hi
    have h3 : f_223 N (pb_pI h 217 0 0) 217 x (nI k) = some (0, pb_pI (pb_pI h 217 0 0) 217 36 (nI k)) := by simp only [f_223, if_pos hi, (y2 _ hq).1, Option.bind_some, i10, if_false, if_pos hi3, e2 _ hq3, if_true]
    exact ⟨-1, h, _, by simp only [f_131, if_pos (mi_0 H), mr_0_0 H, Option.bind_some, if_pos (mi_1 H), e1, y1], ma_q_r h, by simp only [f_227, if_pos (mi_217 H), h3, Option.bind_some, if_true], hq3⟩
  · have h3 : f_223 N (pb_pI h 217 0 0) 217 x y = some (0, pb_pI (pb_pI h 217 0 0) 217 36 y) := by simp only [f_223, if_pos hi, y2 _ hq, Option.bind_some, if_true]
    exact ⟨-1, h, pb_pI (pb_pI h 217 0 0) 217 36 y, by simp only [f_131, if_pos (mi_0 H), mr_0_0 H, Option.bind_some, if_pos (mi_1 H), e1, y1], ma_q_r h, by simp only [f_227, if_pos (mi_217 H), h3, Option.bind_some, if_true], ma_q_pI hq (by decide) _ _⟩
  · obtain ⟨D, hD⟩ := ma_dds hg
    have SO := ma_SO0 O OT
    have Lz := L.2.1
    by_cases hz : ma_at z (Y.1 + 1) = true
    · obtain ⟨n, hn, rfl⟩ := ma_at_ex (by omega) hz
      have z1 : ¬ nI n < 0 := nI_pos (by omega)
      have z2 : nI n ≤ nI Y.1 := nI_le (by omega) (by omega)
      obtain ⟨g1, b1, b2, b3⟩ := c_28 H V O hc
      have H1 := ma_H_fr H b2
      have L1 := ma_L_cL L (by omega) b2
      have hD2 : ∀ j, j < n → ma_dr (D j) (Y.2 j) := fun j hj => hD j (by omega)
      obtain ⟨g2, b4, b5, b6⟩ := c_29 (N := N) (by omega) hY (show n ≤ Y.1 by omega) hD2 hN H1 b3 SO L1
      have H2 := ma_H_fr H1 b5
      have qg : ma_q h g2 := ma_q_t (ma_cq b2) (ma_cq b5)
      have hle := sp_end_le D n 0 (K, 0, 6, 0, 0)
      have SO2 := sp_end_SO D Y n 0 (K, 0, 6, 0, 0) (fun j hj => hD2 j (by omega)) SO
      obtain ⟨r, t1, t2⟩ := ma_tell (N := N) SO2.1 hN w
      by_cases q : (sp_end D n 0 (K, 0, 6, 0, 0)).1 = n
      · obtain ⟨g5, t3, t4⟩ := t1 g2 H2 b6
        have qg5 := ma_q_t qg t4
        obtain ⟨g3, m1, m2, m3, m4⟩ := ma_la (N := N) H hk y2 e2 qg5
        have sz := m_szy m3.1 m4.1 m4.2.1 m4.2.2
        have z168 := m_168z (nI n) (n := Y.1) (y := nI Y.1) rfl (by omega)
        rw [hz] at z168
        obtain ⟨g4, m5, m6, m7⟩ := m_222 (N := N) hY (show n ≤ Y.1 by omega) hD2 hN m3.1 (ma_D0 m3) SO m4
        have H4 := ma_H_fr m3.1 m6
        obtain ⟨g6, t5, t6⟩ := t2 g4 H4 m7
        rw [q] at b4 m5
        refine ⟨r, g5, g6, ?_, qg5, ?_, ma_q_t m2 (ma_q_t (ma_dq m6) t6)⟩
        · simp only [f_131, if_pos (mi_0 H), mr_0_0 H, Option.bind_some, if_pos (mi_1 H), e1, y1, if_neg z1, if_pos (wl_is H L), Lz, if_pos z2, mr_0_8 H, if_pos (mi_200 H), b1, if_pos (mi_0 H1), mr_0_8 H1, if_pos (mi_200 H1), b4, if_pos (nI_le (Nat.le_refl n) (show n < 2 ^ 31 by omega)), if_pos (mi_0 H2), mr_0_8 H2, if_pos (mi_200 H2), t3]
        · simp only [f_227, if_pos (mi_217 (ma_H_q H qg5)), m1, Option.bind_some, i10, if_false, if_pos (mi_217 m3.1), sz, z168, if_true, m5, not_true_eq_false, if_pos (mi_217 H4), t5, eq_self]
      · obtain ⟨g3, m1, m2, m3, m4⟩ := ma_la (N := N) H hk y2 e2 qg
        have sz := m_szy m3.1 m4.1 m4.2.1 m4.2.2
        have z168 := m_168z (nI n) (n := Y.1) (y := nI Y.1) rfl (by omega)
        rw [hz] at z168
        obtain ⟨g4, m5, m6, m7⟩ := m_222 (N := N) hY (show n ≤ Y.1 by omega) hD2 hN m3.1 (ma_D0 m3) SO m4
        have r1 : ¬ nI n ≤ nI (sp_end D n 0 (K, 0, 6, 0, 0)).1 := nI_ge (by omega) (by omega)
        have r2 : ¬ nI (sp_end D n 0 (K, 0, 6, 0, 0)).1 = nI n := fun z => q ((nI_eq (by omega) (by omega)).mp z)
        refine ⟨-1, g2, g4, ?_, qg, ?_, ma_q_t m2 (ma_dq m6)⟩
        · simp only [f_131, if_pos (mi_0 H), mr_0_0 H, Option.bind_some, if_pos (mi_1 H), e1, y1, if_neg z1, if_pos (wl_is H L), Lz, if_pos z2, mr_0_8 H, if_pos (mi_200 H), b1, if_pos (mi_0 H1), mr_0_8 H1, if_pos (mi_200 H1), b4, if_neg r1]
        · simp only [f_227, if_pos (mi_217 (ma_H_q H qg)), m1, Option.bind_some, i10, if_false, if_pos (mi_217 m3.1), sz, z168, if_true, m5, if_pos r2]
    · have hz : ma_at z (Y.1 + 1) = false := by simpa using hz
      obtain ⟨g3, m1, m2, m3, m4⟩ := ma_la (N := N) H hk y2 e2 (ma_q_r h)
      have sz := m_szy m3.1 m4.1 m4.2.1 m4.2.2
      have z168 := m_168z z (n := Y.1) (y := nI Y.1) rfl (by omega)
      rw [hz] at z168
      refine ⟨-1, h, g3, ?_, ma_q_r h, ?_, m2⟩
      · by_cases z1 : z < 0
        · simp only [f_131, if_pos (mi_0 H), mr_0_0 H, Option.bind_some, if_pos (mi_1 H), e1, y1, if_pos z1]
        · have z2 : ¬ z ≤ nI Y.1 := by
            rcases ma_at_no hz with q | q
            · exact absurd q z1
            · rw [Int32.le_iff_toInt_le, nI_toInt (by omega)] at q
              rw [Int32.le_iff_toInt_le, nI_toInt (by omega)]
              omega
          simp only [f_131, if_pos (mi_0 H), mr_0_0 H, Option.bind_some, if_pos (mi_1 H), e1, y1, if_neg z1, if_pos (wl_is H L), Lz, if_neg z2]
      · simp only [f_227, if_pos (mi_217 H), m1, Option.bind_some, i10, if_false, if_pos (mi_217 m3.1), sz, z168, if_true, Bool.false_eq_true]
end
