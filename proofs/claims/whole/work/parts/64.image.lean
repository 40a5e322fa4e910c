/-! image, again: the calls -/
theorem ma_x3 {x : Int32} (w : (3 : Int32) ≤ x) : ¬ x < 0 ∧ ¬ x < 3 := by
  rw [Int32.le_iff_toInt_le] at w
  rw [Int32.lt_iff_toInt_lt, Int32.lt_iff_toInt_lt]
  have : (0 : Int32).toInt = 0 := by decide
  have : (3 : Int32).toInt = 3 := by decide
  omega
theorem ma_Hx {h g : pb_HP} (H : ma_H h) (p : g.1 = h.1) (q : pb_R g = pb_R h) : ma_H g := ⟨p.trans H.1, fun o k z => by rw [q]; exact H.2 o k z⟩
section
variable {h : pb_HP} {N : Nat}
theorem mr_41 (H : ma_H h) {i : Nat} (hi : i < 3) : pb_R h 41 i = some (42 + 40 * i) := by
  have : i = 0 ∨ i = 1 ∨ i = 2 := by omega
  rcases this with rfl | rfl | rfl
  · exact mr_41_0 H
  · exact mr_41_1 H
  · exact mr_41_2 H
theorem st_image (I : ma_INV h) (hN : 3000 < N) (x : Int32) : ma_Z (f_162 N h 0 x) (fun g => f_303 N g 217 x) := by
  have H := I.1
  obtain ⟨X, G, C, M⟩ := I.2.1
  have im := I.2.2.1
  have mk := I.2.2.2
  have r : f_168 x 0 2 = some (if ma_at x 3 then 1 else 0) := m_168z x (n := 2) rfl (by decide)
  cases qa : ma_at x 3
  · rw [qa] at r
    refine ⟨0, h, pb_pI h 217 0 0, ?_, ?_, ma_INV_q I (ma_q_pI (ma_q_r h) (by decide) 0 0)⟩
    · rcases ma_at_no qa with w | w
      · simp only [f_162, if_pos w]
      · simp only [f_162, if_neg (ma_x3 w).1, if_neg (ma_x3 w).2]
    · simp only [f_303, if_pos (mi_217 H), r, Option.bind_some, Bool.false_eq_true, if_false, not_true_eq_false]
  · rw [qa] at r
    obtain ⟨i, hi, rfl⟩ := ma_at_ex (by decide) qa
    obtain ⟨b0, X0, y1, y2, G0, C0, M0⟩ := im i hi
    have cs : ma_tt 1 := ma_ttX (.inl rfl)
    have cd : ma_tt (42 + 40 * i) := ma_ttX (by omega)
    obtain ⟨g1, a1, p1, q1, u1, C1⟩ := c_101 (N := N) H cs cd (by omega) G C C0 hN
    have H1 : ma_H g1 := ma_Hx H p1 q1
    obtain ⟨g, eg⟩ : ∃ g, g = pb_pI g1 162 i 1 := ⟨_, rfl⟩
    have Hg : ma_H g := by rw [eg]; exact H1
    obtain ⟨k, ek⟩ : ∃ k, k = pb_pI g 217 0 0 := ⟨_, rfl⟩
    have Hk : ma_H k := by rw [ek]; exact Hg
    have ug : ∀ o, o ≠ 162 → pb_I g o = pb_I g1 o := fun o b => by rw [eg, ma_I_pI, if_neg b]
    have uk : ∀ o, o ≠ 217 → pb_I k o = pb_I g o := fun o c => by rw [ek, ma_I_pI, if_neg c]
    have Mk : ∀ {j : Nat} {X : ma_X}, ma_MX h j X → ma_MX k j X := fun M => ma_MX_e M (fun o a b => by rw [uk o (by omega), ug o (by omega), u1 o (by omega)])
    obtain ⟨g4, a4, f4, c4⟩ := m_174 (N := N) Hk (a := 0) (b := i + 1) (by decide) (by omega) (by omega) (fun j hj => by rw [(Mk M).2.2.2.2.1 j hj]; exact G.2.2.2.2.1 j hj) hN
    have a4 : f_174 N k 217 0 (nI (i + 1)) = some g4 := a4
    have H4 := ma_H_fr Hk f4
    have u4 : ∀ o, o < 218 ∨ 226 ≤ o → pb_I g4 o = pb_I k o := fun o ho => ma_fr_o f4 (by simp; omega) (by simp)
    obtain ⟨g2, e2⟩ : ∃ g, g = pb_pI g4 240 i 1 := ⟨_, rfl⟩
    have u2 : ∀ o, o ≠ 240 → pb_I g2 o = pb_I g4 o := fun o ho => by rw [e2, ma_I_pI, if_neg ho]
    have uu : ∀ o, o < 217 → o ≠ 162 → pb_I g2 o = pb_I g1 o := fun o p q => by rw [u2 o (by omega), u4 o (by omega), uk o (by omega), ug o q]
    have b162 : pb_I g2 162 = pb_I g 162 := by rw [u2 162 (by decide), u4 162 (by decide), uk 162 (by decide)]
    refine ⟨1, g, g2, ?_, ?_, ?_, ⟨X, G, ?_, ?_⟩, fun j hj => ?_, ?_⟩
    · have nl : ¬ nI i < 0 := fun z => (lD0 (show i < 2 ^ 31 by omega)).mp z
      have l3 : nI i < 3 := (lD3 (show i < 2 ^ 31 by omega)).mpr hi
      simp only [f_162, if_neg nl, if_pos l3, if_pos (mi_0 H), mr_0_1 H, Option.bind_some, if_pos (mx_41 H hi), nI_clamp (show i < 2 ^ 31 by omega), mr_41 H hi, mr_0_0 H, if_pos (wt_is H cd), a1, if_pos (mi_0 H1), mr_0_2 H1, if_pos (mx_162 H1 hi), eg]
    · have r : f_168 (nI i) 0 2 = some 1 := r
      simp only [f_303, if_pos (mi_217 Hg), r, Option.bind_some, nI_1, ← ek, a4, i10, not_false_eq_true, if_true, if_pos (mi_217 H4), mr_217_51 H4, if_pos (mx_240 H4 hi), nI_clamp (show i < 2 ^ 31 by omega), e2]
    · rw [e2]; exact H4
    · exact ma_CX_e C (fun o a b => by rw [uu o (by omega) (by omega), u1 o (by omega)])
    · exact ma_MX_e (ma_MX_ot G (Mk M) (by omega) c4) (fun o a b => u2 o (by omega))
    · by_cases e : j = i
      · subst e
        refine ⟨true, X, ?_, ?_, G, ?_, ?_⟩
        · rw [b162, eg, ma_Ik, if_pos rfl, if_pos rfl]; rfl
        · rw [e2, ma_Ik, if_pos rfl, if_pos rfl]; rfl
        · exact ma_CX_e C1 (fun o a b => uu o (by omega) (by omega))
        · exact fun _ => ma_MX_e (ma_MX_to G (Mk M) c4) (fun o a b => u2 o (by omega))
      · obtain ⟨b, X9, z1, z2, G9, C9, M9⟩ := im j hj
        refine ⟨b, X9, ?_, ?_, G9, ?_, ?_⟩
        · rw [b162, eg, ma_Ik, if_pos rfl, if_neg e, u1 162 (by omega)]; exact z1
        · rw [e2, ma_Ik, if_pos rfl, if_neg e, u4 240 (by decide), uk 240 (by decide), ug 240 (by decide), u1 240 (by omega)]; exact z2
        · exact ma_CX_e C9 (fun o a b => by rw [uu o (by omega) (by omega), u1 o (by omega)])
        · exact fun hb => ma_MX_e (ma_MX_ot G9 (Mk (M9 hb)) (by omega) c4) (fun o a b => u2 o (by omega))
    · rw [uu 214 (by decide) (by decide), u1 214 (by omega)]; exact mk
theorem st_again (I : ma_INV h) (hN : 3000 < N) (x : Int32) : ma_Z (f_163 N h 0 x) (fun g => f_304 N g 217 x) := by
  have H := I.1
  obtain ⟨X, G, C, M⟩ := I.2.1
  have im := I.2.2.1
  have mk := I.2.2.2
  have r : f_168 x 0 2 = some (if ma_at x 3 then 1 else 0) := m_168z x (n := 2) rfl (by decide)
  cases qa : ma_at x 3
  · rw [qa] at r
    refine ⟨0, h, pb_pI h 217 0 0, ?_, ?_, ma_INV_q I (ma_q_pI (ma_q_r h) (by decide) 0 0)⟩
    · rcases ma_at_no qa with w | w
      · simp only [f_163, if_pos w]
      · have w : (3 : Int32) ≤ x := w
        simp only [f_163, if_neg (ma_x3 w).1, if_pos w]
    · simp only [f_304, if_pos (mi_217 H), r, Option.bind_some, Bool.false_eq_true, if_false, if_true]
  · rw [qa] at r
    obtain ⟨i, hi, rfl⟩ := ma_at_ex (by decide) qa
    obtain ⟨b0, X0, y1, y2, G0, C0, M0⟩ := im i hi
    have nl : ¬ nI i < 0 := fun z => (lD0 (show i < 2 ^ 31 by omega)).mp z
    have l3 : ¬ (3 : Int32) ≤ nI i := (not_congr (lA3 (show i < 2 ^ 31 by omega))).mpr (by omega)
    have r : f_168 (nI i) 0 2 = some 1 := r
    have cl : (nI i).toNatClampNeg = i := nI_clamp (show i < 2 ^ 31 by omega)
    cases b0 with
    | false =>
      have y1 : pb_I h 162 i = 0 := y1
      have y2 : pb_I h 240 i = 0 := y2
      have y3 : pb_I (pb_pI h 217 0 0) 240 i = 0 := by rw [ma_I_pI, if_neg (by decide)]; exact y2
      refine ⟨0, h, pb_pI h 217 0 0, ?_, ?_, ma_INV_q I (ma_q_pI (ma_q_r h) (by decide) 0 0)⟩
      · simp only [f_163, if_neg nl, if_neg l3, if_pos (mi_0 H), mr_0_2 H, Option.bind_some, if_pos (mx_162 H hi), cl, y1, not_true_eq_false, if_false]
      · simp only [f_304, if_pos (mi_217 H), r, Option.bind_some, i10, if_false, mr_217_51 H, if_pos (mx_240 H hi), cl, y3, not_true_eq_false]
    | true =>
      have M0 := M0 rfl
      have y1 : pb_I h 162 i = 1 := y1
      have y2 : pb_I h 240 i = 1 := y2
      have cd : ma_tt 1 := ma_ttX (.inl rfl)
      have cs : ma_tt (42 + 40 * i) := ma_ttX (by omega)
      obtain ⟨g, a1, p1, q1, u1, C1⟩ := c_101 (N := N) H cs cd (by omega) G0 C0 C hN
      have H1 : ma_H g := ma_Hx H p1 q1
      obtain ⟨k, ek⟩ : ∃ k, k = pb_pI g 217 0 0 := ⟨_, rfl⟩
      have Hk : ma_H k := by rw [ek]; exact H1
      have uk : ∀ o, o ≠ 217 → pb_I k o = pb_I g o := fun o c => by rw [ek, ma_I_pI, if_neg c]
      have y3 : pb_I k 240 i = 1 := by rw [uk _ (by decide), u1 _ (by omega)]; exact y2
      have Mk : ∀ {j : Nat} {X : ma_X}, ma_MX h j X → ma_MX k j X := fun M => ma_MX_e M (fun o a b => by rw [uk o (by omega), u1 o (by omega)])
      obtain ⟨g2, a4, f4, c4⟩ := m_174 (N := N) Hk (a := i + 1) (b := 0) (by omega) (by decide) (by omega) (fun j hj => by rw [(Mk M0).2.2.2.2.1 j hj]; exact G0.2.2.2.2.1 j hj) hN
      have a4 : f_174 N k 217 (nI (i + 1)) 0 = some g2 := a4
      have H4 := ma_H_fr Hk f4
      have u4 : ∀ o, o < 218 ∨ 226 ≤ o → pb_I g2 o = pb_I k o := fun o ho => ma_fr_o f4 (by simp; omega) (by simp)
      have uu : ∀ o, o < 217 → pb_I g2 o = pb_I g o := fun o p => by rw [u4 o (by omega), uk o (by omega)]
      refine ⟨1, g, g2, ?_, ?_, H4, ⟨X0, G0, ?_, ?_⟩, fun j hj => ?_, ?_⟩
      · simp only [f_163, if_neg nl, if_neg l3, if_pos (mi_0 H), mr_0_2 H, Option.bind_some, if_pos (mx_162 H hi), cl, y1, i10, not_false_eq_true, if_true, mr_0_0 H, mr_0_1 H, if_pos (mx_41 H hi), mr_41 H hi, if_pos (wt_is H cd), a1]
      · simp only [f_304, if_pos (mi_217 H1), r, Option.bind_some, i10, if_false, mr_217_51 H1, if_pos (mx_240 H1 hi), cl, ← ek, y3, not_false_eq_true, if_true, nI_1, a4]
      · exact ma_CX_e C1 (fun o a b => uu o (by omega))
      · exact ma_MX_to G0 (Mk M0) c4
      · obtain ⟨b, X9, z1, z2, G9, C9, M9⟩ := im j hj
        refine ⟨b, X9, ?_, ?_, G9, ?_, ?_⟩
        · rw [uu 162 (by decide), u1 162 (by omega)]; exact z1
        · rw [u4 240 (by decide), uk 240 (by decide), u1 240 (by omega)]; exact z2
        · exact ma_CX_e C9 (fun o a b => by rw [uu o (by omega), u1 o (by omega)])
        · exact fun hb => ma_MX_ot G9 (Mk (M9 hb)) (by omega) c4
      · rw [uu 214 (by decide), u1 214 (by omega)]; exact mk
end
