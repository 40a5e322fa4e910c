/-! image, again: the model's copy, whole -/
def ma_cpA (h g : pb_HP) (a b : Nat) : Prop := ma_cp h g 218 600 a b ∧ ma_cp h g 219 1 a b ∧ ma_cp h g 220 1 a b ∧ ma_cp h g 221 1 a b ∧ ma_cp h g 222 3 a b ∧ ma_cp h g 223 136 a b ∧ ma_cp h g 224 322 a b ∧ ma_cp h g 225 50 a b
section
variable {h g : pb_HP} {N a b : Nat}
theorem ma_cp_l {h g k : pb_HP} {o w a b : Nat} (c : ma_cp h g o w a b) (e : pb_I k o = pb_I g o) : ma_cp h k o w a b := by
  unfold ma_cp; rw [e]; exact c
theorem ma_cp_r {h g k : pb_HP} {o w a b : Nat} (c : ma_cp k g o w a b) (e : pb_I k o = pb_I h o) : ma_cp h g o w a b := by
  unfold ma_cp; rw [← e]; exact c
theorem m_174 (H : ma_H h) (ha : a < 4) (hb : b < 4) (hab : a ≠ b) (hB : ∀ j, j < 600 → (pb_I h 218 (600 * a + j)).toInt8.toInt32 = pb_I h 218 (600 * a + j)) (hN : 3000 < N) : ∃ g, f_174 N h 217 (nI a) (nI b) = some g ∧ ma_fr [218, 219, 220, 221, 222, 223, 224, 225] [] h g ∧ ma_cpA h g a b := by
  obtain ⟨g0, a0, f0, c0⟩ := m_174t (N := N) H ha hb hab hB hN
  have H0 := ma_H_fr H f0
  obtain ⟨g1, a1, f1, c1⟩ := m_173 (N := N) (o := 219) (cap := 4) (w := 1) (a := a) (b := b) H0 (fun g H j hj => mx_219 H hj) (by decide) (by decide) (by omega) (by omega) (by omega) hN
  have H1 := ma_H_fr H0 f1
  have a1 : f_173 N g0 219 1 (nI a) (nI b) = some g1 := a1
  obtain ⟨g2, a2, f2, c2⟩ := m_173 (N := N) (o := 220) (cap := 4) (w := 1) (a := a) (b := b) H1 (fun g H j hj => mx_220 H hj) (by decide) (by decide) (by omega) (by omega) (by omega) hN
  have H2 := ma_H_fr H1 f2
  have a2 : f_173 N g1 220 1 (nI a) (nI b) = some g2 := a2
  obtain ⟨g3, a3, f3, c3⟩ := m_173 (N := N) (o := 221) (cap := 4) (w := 1) (a := a) (b := b) H2 (fun g H j hj => mx_221 H hj) (by decide) (by decide) (by omega) (by omega) (by omega) hN
  have H3 := ma_H_fr H2 f3
  have a3 : f_173 N g2 221 1 (nI a) (nI b) = some g3 := a3
  obtain ⟨g4, a4, f4, c4⟩ := m_173 (N := N) (o := 222) (cap := 12) (w := 3) (a := a) (b := b) H3 (fun g H j hj => mx_222 H hj) (by decide) (by decide) (by omega) (by omega) (by omega) hN
  have H4 := ma_H_fr H3 f4
  have a4 : f_173 N g3 222 3 (nI a) (nI b) = some g4 := a4
  obtain ⟨g5, a5, f5, c5⟩ := m_173 (N := N) (o := 223) (cap := 544) (w := 136) (a := a) (b := b) H4 (fun g H j hj => mx_223 H hj) (by decide) (by decide) (by omega) (by omega) (by omega) hN
  have H5 := ma_H_fr H4 f5
  have a5 : f_173 N g4 223 136 (nI a) (nI b) = some g5 := a5
  obtain ⟨g6, a6, f6, c6⟩ := m_173 (N := N) (o := 224) (cap := 1288) (w := 322) (a := a) (b := b) H5 (fun g H j hj => mx_224 H hj) (by decide) (by decide) (by omega) (by omega) (by omega) hN
  have H6 := ma_H_fr H5 f6
  have a6 : f_173 N g5 224 322 (nI a) (nI b) = some g6 := a6
  obtain ⟨g7, a7, f7, c7⟩ := m_173 (N := N) (o := 225) (cap := 200) (w := 50) (a := a) (b := b) H6 (fun g H j hj => mx_225 H hj) (by decide) (by decide) (by omega) (by omega) (by omega) hN
  have H7 := ma_H_fr H6 f7
  have a7 : f_173 N g6 225 50 (nI a) (nI b) = some g7 := a7
  refine ⟨g7, ?_, ?_, ?_⟩
  · simp only [f_174, a0, Option.bind_some, if_pos (mi_217 H0), mr_217_2 H0, a1, if_pos (mi_217 H1), mr_217_3 H1, a2, if_pos (mi_217 H2), mr_217_4 H2, a3, if_pos (mi_217 H3), mr_217_5 H3, a4, if_pos (mi_217 H4), mr_217_6 H4, a5, if_pos (mi_217 H5), mr_217_7 H5, a6, if_pos (mi_217 H6), mr_217_8 H6, a7]
  · exact ma_fr_t (ma_fr_w f0 (by decide) (by decide)) (ma_fr_t (ma_fr_w f1 (by decide) (by decide)) (ma_fr_t (ma_fr_w f2 (by decide) (by decide)) (ma_fr_t (ma_fr_w f3 (by decide) (by decide)) (ma_fr_t (ma_fr_w f4 (by decide) (by decide)) (ma_fr_t (ma_fr_w f5 (by decide) (by decide)) (ma_fr_t (ma_fr_w f6 (by decide) (by decide)) (ma_fr_w f7 (by decide) (by decide))))))))
  · exact ⟨ma_cp_l (ma_cp_r c0 (rfl)) (((ma_fr_o f7 (by decide) (by decide))).trans (((ma_fr_o f6 (by decide) (by decide))).trans (((ma_fr_o f5 (by decide) (by decide))).trans (((ma_fr_o f4 (by decide) (by decide))).trans (((ma_fr_o f3 (by decide) (by decide))).trans (((ma_fr_o f2 (by decide) (by decide))).trans ((ma_fr_o f1 (by decide) (by decide))))))))),
      ma_cp_l (ma_cp_r c1 ((ma_fr_o f0 (by decide) (by decide)))) (((ma_fr_o f7 (by decide) (by decide))).trans (((ma_fr_o f6 (by decide) (by decide))).trans (((ma_fr_o f5 (by decide) (by decide))).trans (((ma_fr_o f4 (by decide) (by decide))).trans (((ma_fr_o f3 (by decide) (by decide))).trans ((ma_fr_o f2 (by decide) (by decide)))))))),
      ma_cp_l (ma_cp_r c2 (((ma_fr_o f1 (by decide) (by decide))).trans ((ma_fr_o f0 (by decide) (by decide))))) (((ma_fr_o f7 (by decide) (by decide))).trans (((ma_fr_o f6 (by decide) (by decide))).trans (((ma_fr_o f5 (by decide) (by decide))).trans (((ma_fr_o f4 (by decide) (by decide))).trans ((ma_fr_o f3 (by decide) (by decide))))))),
      ma_cp_l (ma_cp_r c3 (((ma_fr_o f2 (by decide) (by decide))).trans (((ma_fr_o f1 (by decide) (by decide))).trans ((ma_fr_o f0 (by decide) (by decide)))))) (((ma_fr_o f7 (by decide) (by decide))).trans (((ma_fr_o f6 (by decide) (by decide))).trans (((ma_fr_o f5 (by decide) (by decide))).trans ((ma_fr_o f4 (by decide) (by decide)))))),
      ma_cp_l (ma_cp_r c4 (((ma_fr_o f3 (by decide) (by decide))).trans (((ma_fr_o f2 (by decide) (by decide))).trans (((ma_fr_o f1 (by decide) (by decide))).trans ((ma_fr_o f0 (by decide) (by decide))))))) (((ma_fr_o f7 (by decide) (by decide))).trans (((ma_fr_o f6 (by decide) (by decide))).trans ((ma_fr_o f5 (by decide) (by decide))))),
      ma_cp_l (ma_cp_r c5 (((ma_fr_o f4 (by decide) (by decide))).trans (((ma_fr_o f3 (by decide) (by decide))).trans (((ma_fr_o f2 (by decide) (by decide))).trans (((ma_fr_o f1 (by decide) (by decide))).trans ((ma_fr_o f0 (by decide) (by decide)))))))) (((ma_fr_o f7 (by decide) (by decide))).trans ((ma_fr_o f6 (by decide) (by decide)))),
      ma_cp_l (ma_cp_r c6 (((ma_fr_o f5 (by decide) (by decide))).trans (((ma_fr_o f4 (by decide) (by decide))).trans (((ma_fr_o f3 (by decide) (by decide))).trans (((ma_fr_o f2 (by decide) (by decide))).trans (((ma_fr_o f1 (by decide) (by decide))).trans ((ma_fr_o f0 (by decide) (by decide))))))))) ((ma_fr_o f7 (by decide) (by decide))),
      ma_cp_l (ma_cp_r c7 (((ma_fr_o f6 (by decide) (by decide))).trans (((ma_fr_o f5 (by decide) (by decide))).trans (((ma_fr_o f4 (by decide) (by decide))).trans (((ma_fr_o f3 (by decide) (by decide))).trans (((ma_fr_o f2 (by decide) (by decide))).trans (((ma_fr_o f1 (by decide) (by decide))).trans ((ma_fr_o f0 (by decide) (by decide)))))))))) (rfl)⟩
theorem ma_T_sh {h g : pb_HP} {k l : Nat} {K : ma_K} (T : ma_T h k K) (e : ∀ r, r < 68 → pb_I g 223 (68 * l + r) = pb_I h 223 (68 * k + r)) : ma_T g l K := by
  unfold ma_T at T ⊢
  obtain ⟨t1, t2, t3, t4, t5, t6, t7, t8⟩ := T
  refine ⟨?_, ?_, fun m hm => ?_, fun m hm => ?_, fun m hm => ?_, fun m hm => ?_, fun m hm => ?_, fun m hm => ?_⟩
  · rw [e _ (by omega)]; exact t1
  · rw [e _ (by omega)]; exact t2
  · rw [e _ (by omega)]; exact t3 m hm
  · rw [e _ (by omega)]; exact t4 m hm
  · rw [e _ (by omega)]; exact t5 m hm
  · rw [e _ (by omega)]; exact t6 m hm
  · rw [e _ (by omega)]; exact t7 m hm
  · rw [e _ (by omega)]; exact t8 m hm
theorem ma_Ly_sh {h g : pb_HP} {o x y w n c : Nat} {Y : ma_Y} (L : ma_Ly h o x w Y) (hY : Y.1 ≤ n) (hc : w * n < c) (e : ∀ r, r < c → pb_I g o (y + r) = pb_I h o (x + r)) : ma_Ly g o y w Y := by
  refine ⟨by have := e 0 (by omega); rw [Nat.add_zero, Nat.add_zero] at this; rw [this]; exact L.1, fun j i hj hi => ?_⟩
  have b : w * j + i < w * n := by
    have : w * (j + 1) ≤ w * n := Nat.mul_le_mul_left w (by omega)
    rw [Nat.mul_add, Nat.mul_one] at this
    omega
  rw [show y + 1 + w * j + i = y + (1 + w * j + i) by omega, e _ (by omega), show x + (1 + w * j + i) = x + 1 + w * j + i by omega]
  exact L.2 j i hj hi
theorem ma_MX_sh {X : ma_X} (G : ma_GX X) (M : ma_MX h a X) (e8 : ∀ j, j < 600 → pb_I g 218 (600 * b + j) = pb_I h 218 (600 * a + j)) (e9 : pb_I g 219 b = pb_I h 219 a) (e0 : pb_I g 220 b = pb_I h 220 a) (e1 : pb_I g 221 b = pb_I h 221 a) (e2 : ∀ j, j < 3 → pb_I g 222 (3 * b + j) = pb_I h 222 (3 * a + j)) (e3 : ∀ j, j < 136 → pb_I g 223 (136 * b + j) = pb_I h 223 (136 * a + j)) (e4 : ∀ j, j < 322 → pb_I g 224 (322 * b + j) = pb_I h 224 (322 * a + j)) (e5 : ∀ j, j < 50 → pb_I g 225 (50 * b + j) = pb_I h 225 (50 * a + j)) : ma_MX g b X := by
  refine ⟨fun k hk => ma_T_sh (M.1 k hk) (fun r hr => ?_), fun k hk => ma_Ly_sh (n := 40) (c := 161) (M.2.1 k hk) (G.2.1 k hk).1 (by decide) (fun r hr => ?_), fun k hk => ma_Ly_sh (n := 8) (c := 25) (M.2.2.1 k hk) (G.2.2.1 k hk).1 (by decide) (fun r hr => ?_), fun s hs => ?_, fun j hj => ?_, ?_, ?_, ?_⟩
  · rw [show 68 * (2 * b + k) + r = 136 * b + (68 * k + r) by omega, e3 _ (by omega), show 68 * (2 * a + k) + r = 136 * a + (68 * k + r) by omega]
  · rw [show 161 * (2 * b + k) + r = 322 * b + (161 * k + r) by omega, e4 _ (by omega), show 161 * (2 * a + k) + r = 322 * a + (161 * k + r) by omega]
  · rw [show 25 * (2 * b + k) + r = 50 * b + (25 * k + r) by omega, e5 _ (by omega), show 25 * (2 * a + k) + r = 50 * a + (25 * k + r) by omega]
  · rw [e2 s hs]; exact M.2.2.2.1 s hs
  · rw [e8 j hj]; exact M.2.2.2.2.1 j hj
  · rw [e9]; exact M.2.2.2.2.2.1
  · rw [e0]; exact M.2.2.2.2.2.2.1
  · rw [e1]; exact M.2.2.2.2.2.2.2
theorem ma_MX_to {X : ma_X} (G : ma_GX X) (M : ma_MX h a X) (c : ma_cpA h g a b) : ma_MX g b X := by
  obtain ⟨c8, c9, c0, c1, c2, c3, c4, c5⟩ := c
  have one : ∀ o, ma_cp h g o 1 a b → pb_I g o b = pb_I h o a := fun o z => by
    have := z.1 0 (by decide)
    rw [Nat.one_mul, Nat.one_mul] at this
    exact this
  exact ma_MX_sh G M c8.1 (one _ c9) (one _ c0) (one _ c1) c2.1 c3.1 c4.1 c5.1
theorem ma_MX_ot {X : ma_X} {i : Nat} (G : ma_GX X) (M : ma_MX h i X) (hi : i ≠ b) (c : ma_cpA h g a b) : ma_MX g i X := by
  obtain ⟨c8, c9, c0, c1, c2, c3, c4, c5⟩ := c
  exact ma_MX_sh G M (fun j hj => c8.2 _ (by omega)) (c9.2 _ (by omega)) (c0.2 _ (by omega)) (c1.2 _ (by omega)) (fun j hj => c2.2 _ (by omega)) (fun j hj => c3.2 _ (by omega)) (fun j hj => c4.2 _ (by omega)) (fun j hj => c5.2 _ (by omega))
end
