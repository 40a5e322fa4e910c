/-! Calls that change the tape: end, feed. -/
def ma_Z {α : Type} (A : Option (α × pb_HP)) (B : pb_HP → Option (α × pb_HP)) : Prop := ∃ r g g2, A = some (r, g) ∧ B g = some (r, g2) ∧ ma_INV g2
theorem ma_INV_t {h g : pb_HP} (I : ma_INV h) (q1 : g.1 = h.1) (q2 : pb_R g = pb_R h) (kp : ∀ o, ma_ps o → o ≠ 1 → o ≠ 40 → o ≠ 218 → o ≠ 219 → pb_I g o = pb_I h o) (k1 : ∀ k, k ≠ 5 → pb_I g 1 k = pb_I h 1 k) (k2 : ∀ k, 600 ≤ k → pb_I g 218 k = pb_I h 218 k) (k3 : ∀ k, k ≠ 0 → pb_I g 219 k = pb_I h 219 k) {n : Nat} {B : Nat → Int32} (hn : n ≤ 600) (hB : ∀ j, j < 600 → (B j).toInt8.toInt32 = B j) (c1 : pb_I g 1 5 = nI n) (c2 : ∀ j, j < 600 → pb_I g 40 j = B j) (m1 : pb_I g 219 0 = nI n) (m2 : ∀ j, j < 600 → pb_I g 218 j = B j) : ma_INV g := by
  obtain ⟨H, ⟨X, G, c, m⟩, im, mk⟩ := I
  refine ⟨⟨q1.trans H.1, fun o k z => by rw [q2]; exact H.2 o k z⟩, ⟨(X.1, X.2.1, X.2.2.1, X.2.2.2.1, B, n, X.2.2.2.2.2.2), ?_, ?_, ?_⟩, fun i hi => ?_, ?_⟩
  · exact ⟨G.1, G.2.1, G.2.2.1, G.2.2.2.1, hB, hn, G.2.2.2.2.2.2⟩
  · refine ⟨fun k hk => ma_V_e (c.1 k hk) (fun o a b => kp o (by omega) (by omega) (by omega) (by omega) (by omega)), fun k hk => ma_L_e (c.2.1 k hk) (fun o a b => kp o (by omega) (by omega) (by omega) (by omega) (by omega)), fun k hk => ma_L_e (c.2.2.1 k hk) (fun o a b => kp o (by omega) (by omega) (by omega) (by omega) (by omega)), fun s hs => ?_, c2, c1, ?_, ?_⟩
    · rw [kp (1 + 38) (by omega) (by omega) (by omega) (by omega) (by omega)]; exact c.2.2.2.1 s hs
    · rw [k1 6 (by decide)]; exact c.2.2.2.2.2.2.1
    · rw [k1 7 (by decide)]; exact c.2.2.2.2.2.2.2
  · have e2 := kp 222 (by omega) (by omega) (by omega) (by omega) (by omega)
    have e3 := kp 223 (by omega) (by omega) (by omega) (by omega) (by omega)
    have e4 := kp 224 (by omega) (by omega) (by omega) (by omega) (by omega)
    have e5 := kp 225 (by omega) (by omega) (by omega) (by omega) (by omega)
    have e0 := kp 220 (by omega) (by omega) (by omega) (by omega) (by omega)
    have e1 := kp 221 (by omega) (by omega) (by omega) (by omega) (by omega)
    refine ⟨fun k hk => ma_T_e (m.1 k hk) e3, fun k hk => ?_, fun k hk => ?_, fun s hs => ?_, fun j hj => ?_, m1, ?_, ?_⟩
    · unfold ma_Ly; rw [e4]; exact m.2.1 k hk
    · unfold ma_Ly; rw [e5]; exact m.2.2.1 k hk
    · rw [e2]; exact m.2.2.2.1 s hs
    · rw [Nat.mul_zero, Nat.zero_add]; exact m2 j hj
    · rw [e0]; exact m.2.2.2.2.2.2.1
    · rw [e1]; exact m.2.2.2.2.2.2.2
  · obtain ⟨b, X, y1, y2, G, c, m⟩ := im i hi
    refine ⟨b, X, by rw [kp 162 (by omega) (by omega) (by omega) (by omega) (by omega)]; exact y1, by rw [kp 240 (by omega) (by omega) (by omega) (by omega) (by omega)]; exact y2, G, ma_CX_e c (fun o a b => kp o (by omega) (by omega) (by omega) (by omega) (by omega)), fun hb => ?_⟩
    have m := m hb
    have e2 := kp 222 (by omega) (by omega) (by omega) (by omega) (by omega)
    have e3 := kp 223 (by omega) (by omega) (by omega) (by omega) (by omega)
    have e4 := kp 224 (by omega) (by omega) (by omega) (by omega) (by omega)
    have e5 := kp 225 (by omega) (by omega) (by omega) (by omega) (by omega)
    have e0 := kp 220 (by omega) (by omega) (by omega) (by omega) (by omega)
    have e1 := kp 221 (by omega) (by omega) (by omega) (by omega) (by omega)
    refine ⟨fun k hk => ma_T_e (m.1 k hk) e3, fun k hk => ?_, fun k hk => ?_, fun s hs => ?_, fun j hj => ?_, ?_, ?_, ?_⟩
    · unfold ma_Ly; rw [e4]; exact m.2.1 k hk
    · unfold ma_Ly; rw [e5]; exact m.2.2.1 k hk
    · rw [e2]; exact m.2.2.2.1 s hs
    · rw [k2 _ (by omega)]; exact m.2.2.2.2.1 j hj
    · rw [k3 _ (by omega)]; exact m.2.2.2.2.2.1
    · rw [e0]; exact m.2.2.2.2.2.2.1
    · rw [e1]; exact m.2.2.2.2.2.2.2
  · rw [kp 214 (by omega) (by omega) (by omega) (by omega) (by omega)]; exact mk
section
variable {h : pb_HP} {N : Nat}
theorem st_end (I : ma_INV h) (x : Int32) : ma_Z (f_125 h 0 x) (fun g => f_178 g 217 x) := by
  have H := I.1
  obtain ⟨X, G, c, m⟩ := I.2.1
  have hn := G.2.2.2.2.2.1
  have hB := G.2.2.2.2.1
  have c1 := c.2.2.2.2.2.1
  have c2 := c.2.2.2.2.1
  have m1 := m.2.2.2.2.2.1
  have m2 : ∀ j, j < 600 → pb_I h 218 j = X.2.2.2.2.1 j := fun j hj => by
    have := m.2.2.2.2.1 j hj
    rw [Nat.mul_zero, Nat.zero_add] at this
    exact this
  obtain ⟨n, en⟩ : ∃ n, n = X.2.2.2.2.2.1 := ⟨_, rfl⟩
  rw [← en] at hn c1 m1
  have z0 : (0 : Int32).toNatClampNeg = 0 := by decide
  have x0 : pb_ar h 219 12 0 := mx_219 H (j := 0) (by decide)
  have r : f_168 x 0 (nI n) = some (if ma_at x (n + 1) then 1 else 0) := by
    have := m_168 x (n := n + 1) (by omega)
    rw [show nI (n + 1) - 1 = nI n from mI_s n] at this
    exact this
  cases qa : ma_at x (n + 1)
  · rw [qa] at r
    have mm : pb_I (pb_pI h 217 0 0) 219 0 = nI n := by rw [ma_Ik, if_neg (by decide)]; exact m1
    refine ⟨-1, h, pb_pI h 217 0 0, ?_, ?_, ma_INV_q I (ma_q_pI (ma_q_r h) (by decide) 0 0)⟩
    · rcases ma_at_no qa with w | w
      · simp only [f_125, if_pos w]
      · have nl : ¬ x < 0 := fun z => by
          rw [Int32.le_iff_toInt_le, nI_toInt (by omega)] at w
          rw [Int32.lt_iff_toInt_lt] at z
          have : (0 : Int32).toInt = 0 := by decide
          omega
        have nl2 : ¬ x ≤ nI n := fun z => by
          rw [Int32.le_iff_toInt_le, nI_toInt (by omega)] at w z
          omega
        simp only [f_125, if_neg nl, if_pos (mi_0 H), mr_0_0 H, Option.bind_some, if_pos (mi_1 H), c1, if_neg nl2]
    · simp only [f_178, if_pos (mi_217 H), mr_217_2 H, Option.bind_some, if_pos x0, z0, mm, r, Bool.false_eq_true, if_false, not_true_eq_false]
  · rw [qa] at r
    obtain ⟨j, hj, rfl⟩ := ma_at_ex (by omega) qa
    have H1 : ma_H (pb_pI h 1 5 (nI j)) := H
    have mm : pb_I (pb_pI (pb_pI h 1 5 (nI j)) 217 0 0) 219 0 = nI n := by rw [ma_Ik, if_neg (by decide), ma_Ik, if_neg (by decide)]; exact m1
    have x1 : pb_ar (pb_pI h 1 5 (nI j)) 219 12 0 := mx_219 H1 (j := 0) (by decide)
    refine ⟨nI j, pb_pI h 1 5 (nI j), pb_pI (pb_pI (pb_pI h 1 5 (nI j)) 217 0 0) 219 0 (nI j), ?_, ?_, ma_INV_t (n := j) (B := X.2.2.2.2.1) I rfl rfl (fun o ho a b d e => ?_) (fun k hk => ?_) (fun k hk => ?_) (fun k hk => ?_) (by omega) hB ?_ (fun i hi => ?_) ?_ (fun i hi => ?_)⟩
    · have nl : ¬ nI j < 0 := fun z => (lD0 (show j < 2 ^ 31 by omega)).mp z
      simp only [f_125, if_neg nl, if_pos (mi_0 H), mr_0_0 H, Option.bind_some, if_pos (mi_1 H), c1, if_pos (nI_le (show j ≤ n by omega) (show n < 2 ^ 31 by omega))]
    · simp only [f_178, if_pos (mi_217 H1), mr_217_2 H1, Option.bind_some, if_pos x1, z0, mm, r, if_true, i10, not_false_eq_true]
    · have n1 : o ≠ 217 := fun z => by subst z; exact absurd ho (by decide)
      rw [ma_I_pI, if_neg e, ma_I_pI, if_neg n1, ma_I_pI, if_neg a]
    · rw [ma_Ik, if_neg (by decide), ma_Ik, if_neg (by decide), ma_Ik, if_pos rfl, if_neg hk]
    · rw [ma_Ik, if_neg (by decide), ma_Ik, if_neg (by decide), ma_Ik, if_neg (by decide)]
    · rw [ma_Ik, if_pos rfl, if_neg hk, ma_Ik, if_neg (by decide), ma_Ik, if_neg (by decide)]
    · rw [ma_Ik, if_neg (by decide), ma_Ik, if_neg (by decide), ma_Ik, if_pos rfl, if_pos rfl]
    · rw [ma_Ik, if_neg (by decide), ma_Ik, if_neg (by decide), ma_Ik, if_neg (by decide)]; exact c2 i hi
    · rw [ma_Ik, if_pos rfl, if_pos rfl]
    · rw [ma_Ik, if_neg (by decide), ma_Ik, if_neg (by decide), ma_Ik, if_neg (by decide)]; exact m2 i hi
end
