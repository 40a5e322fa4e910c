/-! feed: five words -/
section
variable {h : pb_HP} {N n : Nat} {B : Nat → Int32} {v : Int32}
theorem sp_wj_B (hB : ∀ j, j < 600 → (B j).toInt8.toInt32 = B j) (n : Nat) (v : Int32) : ∀ j, j < 600 → (sp_wj B n v 4 j).toInt8.toInt32 = sp_wj B n v 4 j := fun j hj => by
  unfold sp_wj
  by_cases c : n ≤ j ∧ j < n + 4
  · rw [if_pos c]; exact sp_by_b v _
  · rw [if_neg c]; exact hB j hj
theorem st_feed (I : ma_INV h) (hN : 3000 < N) (x1 x2 x3 x4 x5 : Int32) : ma_Z (f_124 N h 0 x1 x2 x3 x4 x5) (fun g => f_176 N g 217 x1 x2 x3 x4 x5) := by
  have H := I.1
  obtain ⟨X, G, c, m⟩ := I.2.1
  have hn := G.2.2.2.2.2.1
  have hB := G.2.2.2.2.1
  have c1 := c.2.2.2.2.2.1
  have c2 := c.2.2.2.2.1
  have m1 := m.2.2.2.2.2.1
  have m2 : ∀ j, j < 600 → pb_I h 218 j = X.2.2.2.2.1 j := fun j hj => by
    have := m.2.2.2.2.1 j hj
    rw [Nat.mul_zero, Nat.zero_add] at this
    exact this
  obtain ⟨n, en⟩ : ∃ n, n = X.2.2.2.2.2.1 := ⟨_, rfl⟩
  obtain ⟨B, eB⟩ : ∃ B, B = X.2.2.2.2.1 := ⟨_, rfl⟩
  rw [← en] at hn c1 m1
  rw [← eB] at hB c2 m2
  have z0 : (0 : Int32).toNatClampNeg = 0 := by decide
  have x0 : pb_ar h 219 12 0 := mx_219 H (j := 0) (by decide)
  have e20 : nI n + 20 = nI (n + 20) := nI_add n 20
  have le : (nI (n + 20) ≤ 600) = (n + 20 ≤ 600) := propext (lC600 (by omega))
  by_cases q : n + 20 ≤ 600
  · have t0 : ma_ta h B n := ⟨c1, c2⟩
    obtain ⟨g1, a1, f1, t1⟩ := c_100 (N := N) (v := x1) H t0 (by omega) hN
    have H1 := ma_H_fr H f1
    obtain ⟨g2, a2, f2, t2⟩ := c_100 (N := N) (v := x2) H1 t1 (by omega) hN
    have H2 := ma_H_fr H1 f2
    obtain ⟨g3, a3, f3, t3⟩ := c_100 (N := N) (v := x3) H2 t2 (by omega) hN
    have H3 := ma_H_fr H2 f3
    obtain ⟨g4, a4, f4, t4⟩ := c_100 (N := N) (v := x4) H3 t3 (by omega) hN
    have H4 := ma_H_fr H3 f4
    obtain ⟨g5, a5, f5, t5⟩ := c_100 (N := N) (v := x5) H4 t4 (by omega) hN
    have H5 := ma_H_fr H4 f5
    have F : ma_fr [40] [(1, 5)] h g5 := ma_fr_t f1 (ma_fr_t f2 (ma_fr_t f3 (ma_fr_t f4 f5)))
    have K0 : ma_H (pb_pI g5 217 0 0) := H5
    have d0 : pb_I (pb_pI g5 217 0 0) 219 0 = nI n := by rw [ma_Ik, if_neg (by decide), ma_fr_o F (by decide) (by decide)]; exact m1
    have u0 : ma_tb (pb_pI g5 217 0 0) B n := ⟨d0, fun j hj => by rw [ma_Ik, if_neg (by decide), ma_fr_o F (by decide) (by decide)]; exact m2 j hj⟩
    obtain ⟨k1, b1, e1, w1, u1⟩ := m_177 (N := N) (v := x1) K0 u0 (by omega) hN
    have K1 := ma_H_fr K0 e1
    obtain ⟨k2, b2, e2, w2, u2⟩ := m_177 (N := N) (v := x2) K1 u1 (by omega) hN
    have K2 := ma_H_fr K1 e2
    obtain ⟨k3, b3, e3, w3, u3⟩ := m_177 (N := N) (v := x3) K2 u2 (by omega) hN
    have K3 := ma_H_fr K2 e3
    obtain ⟨k4, b4, e4, w4, u4⟩ := m_177 (N := N) (v := x4) K3 u3 (by omega) hN
    have K4 := ma_H_fr K3 e4
    obtain ⟨k5, b5, e5, w5, u5⟩ := m_177 (N := N) (v := x5) K4 u4 (by omega) hN
    have K5 := ma_H_fr K4 e5
    have E : ma_fr [218] [(219, 0)] (pb_pI g5 217 0 0) k5 := ma_fr_t e1 (ma_fr_t e2 (ma_fr_t e3 (ma_fr_t e4 e5)))
    have y0 : pb_ar g5 219 12 0 := mx_219 H5 (j := 0) (by decide)
    have y5 : pb_ar k5 219 12 0 := mx_219 K5 (j := 0) (by decide)
    have ko : ∀ o, o ≠ 218 → o ≠ 219 → o ≠ 217 → pb_I k5 o = pb_I g5 o := fun o p1 p2 p3 => by
      rw [ma_fr_o E (by simp; exact p1) (by simp; exact p2), ma_I_pI, if_neg p3]
    refine ⟨nI (n + 4 + 4 + 4 + 4 + 4), g5, k5, ?_, ?_, ma_INV_t (n := n + 4 + 4 + 4 + 4 + 4) (B := _) I (E.1.trans F.1) (E.2.1.trans F.2.1) (fun o ho p1 p2 p3 p4 => ?_) (fun k hk => ?_) (fun k hk => ?_) (fun k hk => ?_) (by omega) (sp_wj_B (sp_wj_B (sp_wj_B (sp_wj_B (sp_wj_B hB _ _) _ _) _ _) _ _) _ _) ?_ (fun i hi => ?_) u5.1 u5.2⟩
    · simp only [f_124, if_pos (mi_0 H), mr_0_0 H, Option.bind_some, if_pos (mi_1 H), c1, e20, le, if_pos q, a1, if_pos (mi_0 H1), mr_0_0 H1, if_pos (mi_1 H1), a2, if_pos (mi_0 H2), mr_0_0 H2, if_pos (mi_1 H2), a3, if_pos (mi_0 H3), mr_0_0 H3, if_pos (mi_1 H3), a4, if_pos (mi_0 H4), mr_0_0 H4, if_pos (mi_1 H4), a5, if_pos (mi_0 H5), mr_0_0 H5, if_pos (mi_1 H5), t5.1]
    · simp only [f_176, if_pos (mi_217 H5), mr_217_2 H5, Option.bind_some, if_pos y0, z0, d0, e20, le, if_pos q, b1, if_pos (mi_217 K1), b2, if_pos (mi_217 K2), b3, if_pos (mi_217 K3), b4, if_pos (mi_217 K4), b5, if_pos (mi_217 K5), mr_217_2 K5, if_pos y5, u5.1]
    · have n1 : o ≠ 217 := fun z => by subst z; exact absurd ho (by decide)
      rw [ko o p3 p4 n1, ma_fr_o F (by simp; exact p2) (by simp; exact p1)]
    · rw [ko 1 (by decide) (by decide) (by decide)]
      exact F.2.2 1 k (by decide) (by simp; exact hk)
    · rw [w5 k hk, w4 k hk, w3 k hk, w2 k hk, w1 k hk, ma_Ik, if_neg (by decide), ma_fr_o F (by decide) (by decide)]
    · rw [E.2.2 219 k (by decide) (by simp; exact hk), ma_Ik, if_neg (by decide), ma_fr_o F (by decide) (by decide)]
    · rw [ko 1 (by decide) (by decide) (by decide)]; exact t5.1
    · rw [ko 40 (by decide) (by decide) (by decide)]; exact t5.2 i hi
  · have mm : pb_I (pb_pI h 217 0 0) 219 0 = nI n := by rw [ma_Ik, if_neg (by decide)]; exact m1
    refine ⟨-1, h, pb_pI h 217 0 0, ?_, ?_, ma_INV_q I (ma_q_pI (ma_q_r h) (by decide) 0 0)⟩
    · simp only [f_124, if_pos (mi_0 H), mr_0_0 H, Option.bind_some, if_pos (mi_1 H), c1, e20, le, if_neg q]
    · simp only [f_176, if_pos (mi_217 H), mr_217_2 H, Option.bind_some, if_pos x0, z0, mm, e20, le, if_neg q]
end
