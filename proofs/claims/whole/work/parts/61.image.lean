/-! image, again: one step of the developers' copy -/
section
variable {h : pb_HP} {N s d k : Nat} {K : ma_K} {Y Z : ma_Y}
theorem c_101s (H : ma_H h) (cs : ma_tt s) (cd : ma_tt d) (hx : s + 39 < d ∨ d + 39 < s) (hk : k < 2) (Vs : ma_V h (s + 2 + 7 * k) K) (O : ma_OK K) (Vd : ma_ct (d + 2 + 7 * k)) (Ls : ma_L h (s + 17 + 5 * k) 40 3 Y) (hY : Y.1 ≤ 40) (Ld : ma_lt (d + 17 + 5 * k) 40) (L5 : pb_I h (d + 17 + 5 * k) 5 = nI 3) (Ms : ma_L h (s + 28 + 5 * k) 8 2 Z) (hZ : Z.1 ≤ 8) (Md : ma_lt (d + 28 + 5 * k) 8) (M5 : pb_I h (d + 28 + 5 * k) 5 = nI 2) : ∃ g, f_101_2s N d s (nI k, h) = some (.inl (nI (k + 1), g)) ∧ g.1 = h.1 ∧ pb_R g = pb_R h ∧ (∀ o, (o < d + 2 + 7 * k ∨ d + 8 + 7 * k < o) → (o < d + 17 + 5 * k ∨ d + 21 + 5 * k < o) → (o < d + 28 + 5 * k ∨ d + 32 + 5 * k < o) → pb_I g o = pb_I h o) ∧ ma_V g (d + 2 + 7 * k) K ∧ ma_L g (d + 17 + 5 * k) 40 3 Y ∧ ma_L g (d + 28 + 5 * k) 8 2 Z := by
  obtain ⟨g1, a1, f1, v1⟩ := c_2 (d := d + 2 + 7 * k) H Vs O Vd (by omega)
  have H1 := ma_H_fr H f1
  have u1 : ∀ o, o < d + 2 + 7 * k ∨ d + 8 + 7 * k < o → pb_I g1 o = pb_I h o := fun o ho => ma_fr_o f1 (by simp; omega) (by simp)
  have L1 : ma_L g1 (s + 17 + 5 * k) 40 3 Y := ma_L_e Ls (fun o a b => u1 o (by omega))
  obtain ⟨g2, a2, f2, v2⟩ := c_73 (d := d + 17 + 5 * k) H1 L1 hY (by decide) Ld (by rw [u1 _ (by omega)]; exact L5) (by omega)
  have H2 := ma_H_fr H1 f2
  have u2 : ∀ o, o < d + 17 + 5 * k ∨ d + 21 + 5 * k < o → pb_I g2 o = pb_I g1 o := fun o ho => ma_fr_o f2 (by simp; omega) (by simp; omega)
  have M2 : ma_L g2 (s + 28 + 5 * k) 8 2 Z := ma_L_e Ms (fun o a b => by rw [u2 o (by omega), u1 o (by omega)])
  obtain ⟨g3, a3, f3, v3⟩ := c_73 (d := d + 28 + 5 * k) H2 M2 hZ (by decide) Md (by rw [u2 _ (by omega), u1 _ (by omega)]; exact M5) (by omega)
  have H3 := ma_H_fr H2 f3
  have u3 : ∀ o, o < d + 28 + 5 * k ∨ d + 32 + 5 * k < o → pb_I g3 o = pb_I g2 o := fun o ho => ma_fr_o f3 (by simp; omega) (by simp; omega)
  have ek : ¬ (2 : Int32) ≤ nI k := (not_congr (lA2 (show k < 2 ^ 31 by omega))).mpr (by omega)
  have i1 : pb_is h (d + 2 + 7 * k) 0 := wv_is H Vd
  have i2 : pb_is g1 (d + 17 + 5 * k) 4 := ma_is H1.1 (by have := Ld.1; omega) Ld.2.2.1
  have i3 : pb_is g2 (d + 28 + 5 * k) 4 := ma_is H2.1 (by have := Md.1; omega) Md.2.2.1
  refine ⟨g3, ?_, f3.1.trans (f2.1.trans f1.1), f3.2.1.trans (f2.2.1.trans f1.2.1), fun o p1 p2 p3 => by rw [u3 o p3, u2 o p2, u1 o p1], ?_, ?_, v3⟩
  · simp only [f_101_2s, if_neg ek, if_pos (wt_is H cd), if_pos (wt_is H cs), wt_r0 H cd, wt_r0 H cs, Option.bind_some, if_pos (wt_x0 H cd hk), if_pos (wt_x0 H cs hk), nI_clamp (show k < 2 ^ 31 by omega), wt_y0 H cd hk, wt_y0 H cs hk, if_pos i1, a1, if_pos (wt_is H1 cd), if_pos (wt_is H1 cs), wt_r1 H1 cd, wt_r1 H1 cs, if_pos (wt_x1 H1 cd hk), if_pos (wt_x1 H1 cs hk), wt_y1 H1 cd hk, wt_y1 H1 cs hk, if_pos i2, a2, if_pos (wt_is H2 cd), if_pos (wt_is H2 cs), wt_r2 H2 cd, wt_r2 H2 cs, if_pos (wt_x2 H2 cd hk), if_pos (wt_x2 H2 cs hk), wt_y2 H2 cd hk, wt_y2 H2 cs hk, if_pos i3, a3, nI_1]
  · exact ma_V_e v1 (fun o a b => by rw [u3 o (by omega), u2 o (by omega)])
  · exact ma_L_e v2 (fun o a b => u3 o (by omega))
end
