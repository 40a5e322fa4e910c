/-! after: the call -/
section
variable {h : pb_HP} {N T yy : Nat} {Y : ma_Y} {D : Nat → ma_dd} {S : ma_S}
theorem m_299a (H : ma_H h) (v : Int32) (hN : 3000 < N) : ∃ g, pb_wl (f_299_49s N 217 v) N (0, h) = some g ∧ ma_fr [237, 238] [] h g ∧ ∀ j, j < 6 → pb_I g 237 j = 0 ∧ pb_I g 238 j = 0 := by
  refine ma_lh (fun j s => s.1 = nI j ∧ ma_fr [237, 238] [] h s.2 ∧ ∀ c, c < j → pb_I s.2 237 c = 0 ∧ pb_I s.2 238 c = 0) _ 6 0 N _ (by omega) (by omega) ⟨rfl, ma_fr_r _ _ _, fun c hc => absurd hc (Nat.not_lt_zero c)⟩ ?_ ?_
  · rintro j ⟨y, g⟩ _ hj ⟨hy, fg, p⟩
    dsimp only at hy fg p
    subst hy
    left
    have Hg := ma_H_fr H fg
    have e1 : ¬ (6 : Int32) ≤ nI j := nI_ge (b := 6) hj (by decide)
    refine ⟨(nI (j + 1), pb_pI (pb_pI g 237 j 0) 238 j 0), ?_, rfl, ma_fr_pI (ma_fr_pI fg (.inl (by decide)) _) (.inl (by decide)) _, fun c hc => ⟨?_, ?_⟩⟩
    · simp only [f_299_49s, if_neg e1, if_pos (mi_217 Hg), mr_217_44 Hg, mr_217_45 Hg, Option.bind_some, if_pos (mx_237 Hg hj), if_pos (mx_238 Hg hj), nI_clamp (show j < 2 ^ 31 by omega), nI_1]
    · show pb_I (pb_pI (pb_pI g 237 j 0) 238 j 0) 237 c = 0
      rw [ma_Ik, if_neg (by decide), ma_Ik, if_pos rfl]
      by_cases q : c = j
      · rw [if_pos q]
      · rw [if_neg q]; exact (p c (by omega)).1
    · show pb_I (pb_pI (pb_pI g 237 j 0) 238 j 0) 238 c = 0
      rw [ma_Ik, if_pos rfl]
      by_cases q : c = j
      · rw [if_pos q]
      · rw [if_neg q, ma_Ik, if_neg (by decide)]; exact (p c (by omega)).2
  · rintro ⟨y, g⟩ ⟨hy, fg, p⟩
    dsimp only at hy fg p
    subst hy
    refine ⟨g, ?_, fg, p⟩
    have e1 : (6 : Int32) ≤ nI 6 := by decide
    simp only [f_299_49s, if_pos e1]
theorem m_299b (hd : ∀ j, j < T → ma_dr (D j) (Y.2 j)) (eT : T = Y.1) (hY : Y.1 ≤ 40) (O : ma_SO S) (H : ma_H h) (Dd : ma_D h S) (v : ma_yv h yy Y) (A : af_A h D S 0) (w : Int32) (hN : 3000 < N) : ∃ g, pb_wl (f_299_81s N 217 w) N (0, h) = some g ∧ ma_fr af_M af_F h g ∧ af_A g D S (af_e D S T) := by
  have b := af_e_b D S T
  refine ma_lh (fun j s => s.1 = nI j ∧ ma_fr af_M af_F h s.2 ∧ ma_D s.2 (af_q D S j) ∧ ma_yv s.2 yy Y ∧ af_A s.2 D S j) _ (af_e D S T) 0 N _ (by omega) (by omega) ⟨rfl, ma_fr_r _ _ _, Dd, v, A⟩ ?_ ?_
  · rintro j ⟨y, g⟩ _ hj ⟨hy, fg, Dg, vg, Ag⟩
    dsimp only at hy fg Dg vg Ag
    subst hy
    have Hg := ma_H_fr H fg
    have sz := m_szy Hg vg.1 vg.2.1 vg.2.2
    have nl : ¬ nI Y.1 ≤ nI j := nI_ge (show j < Y.1 by omega) (by omega)
    obtain ⟨g1, a1, a2, a3, a4, a5⟩ := (m_297 (N := N) (k := j) hd eT hY O (by omega) Hg Dg vg Ag hN).2 (b.2.1 j hj)
    left
    refine ⟨(nI (j + 1), g1), ?_, rfl, ma_fr_t fg a2, a3, a4, a5⟩
    simp only [f_299_81s, if_pos (mi_217 Hg), sz, Option.bind_some, if_neg nl, a1, i10, if_false, nI_1]
  · rintro ⟨y, g⟩ ⟨hy, fg, Dg, vg, Ag⟩
    dsimp only at hy fg Dg vg Ag
    subst hy
    have Hg := ma_H_fr H fg
    have sz := m_szy Hg vg.1 vg.2.1 vg.2.2
    rcases Nat.lt_or_ge (af_e D S T) T with c | c
    · have nl : ¬ nI Y.1 ≤ nI (af_e D S T) := nI_ge (show af_e D S T < Y.1 by omega) (by omega)
      obtain ⟨g1, a1, a2, a3⟩ := (m_297 (N := N) (k := af_e D S T) hd eT hY O c Hg Dg vg Ag hN).1 (b.2.2 c)
      refine ⟨g1, ?_, ma_fr_t fg a2, a3⟩
      simp only [f_299_81s, if_pos (mi_217 Hg), sz, Option.bind_some, if_neg nl, a1, if_true]
    · have le : nI Y.1 ≤ nI (af_e D S T) := nI_le (by omega) (by omega)
      refine ⟨g, ?_, fg, Ag⟩
      simp only [f_299_81s, if_pos (mi_217 Hg), sz, Option.bind_some, if_pos le]
/-- what is answered -/
def af_r (D : Nat → ma_dd) (S : ma_S) (T w : Nat) : Int32 := if w = 0 then mI (af_bg D S (af_e D S T)) else if w = 1 then nI (af_ch D S (af_e D S T)) else if w = 2 then mI (af_mo (fun m => af_re D S m (af_e D S T))).1 else if w = 3 then mI (af_mo (fun c => af_tu D S c (af_e D S T))).1 else if w = 4 then nI (af_gn D S 2 (af_e D S T)) else nI (af_gn D S 5 (af_e D S T))
theorem m_299c (hT : T ≤ 40) (H : ma_H h) (A : af_A h D S (af_e D S T)) {w : Nat} (hw : w < 6) (hN : 3000 < N) : f_299_105 N h 217 (nI w) = some (af_r D S T w, h) := by
  have b := af_e_b D S T
  have r2 := m_298 (N := N) (o := 237) H (fun j hj => mx_237 H hj) A.2.2.2.2.1 (fun j _ => by have := af_re_le (D := D) (S := S) j (af_e D S T); omega) hN
  have r3 := m_298 (N := N) (o := 238) H (fun j hj => mx_238 H hj) A.2.2.2.2.2 (fun j _ => by have := af_tu_le (D := D) (S := S) j (af_e D S T); omega) hN
  have : w = 0 ∨ w = 1 ∨ w = 2 ∨ w = 3 ∨ w = 4 ∨ w = 5 := by omega
  unfold f_299_105 af_r
  rcases this with rfl | rfl | rfl | rfl | rfl | rfl
  · rw [if_pos (by decide), if_pos (mi_217 H), A.1]; rfl
  · rw [if_neg (by decide), if_pos (by decide), if_pos (mi_217 H), A.2.1]; rfl
  · rw [if_neg (by decide), if_neg (by decide), if_pos (by decide), if_pos (mi_217 H), mr_217_44 H, Option.bind_some, r2]; rfl
  · rw [if_neg (by decide), if_neg (by decide), if_neg (by decide), if_pos (by decide), if_pos (mi_217 H), mr_217_45 H, Option.bind_some, r3]; rfl
  · rw [if_neg (by decide), if_neg (by decide), if_neg (by decide), if_neg (by decide), if_pos (by decide), if_pos (mi_217 H), A.2.2.1]; rfl
  · rw [if_neg (by decide), if_neg (by decide), if_neg (by decide), if_neg (by decide), if_neg (by decide), if_pos (mi_217 H), A.2.2.2.1]; rfl
theorem q_after (I : ma_INV h) (hN : 3000 < N) (x y w : Int32) : ma_Q h (f_158 N h 0 x y w) (fun g => f_299 N g 217 x y w) := by
  have H := I.1
  have hq : ma_q h (pb_pI h 217 0 0) := ma_q_pI (ma_q_r h) (by decide) 0 0
  have hi : pb_is (pb_pI h 217 0 0) 217 11 := mi_217 H
  rcases ma_W1 I hN x with ⟨e1, e2⟩ | ⟨c, K, e1, hc, O, OT, V, e2⟩ <;> rcases ma_Wy I y with ⟨y1, y2⟩ | ⟨k, Y, hk, rfl, y1, L, hY, hg, y2⟩
  · have h3 : f_223 N (pb_pI h 217 0 0) 217 x y = some (0, pb_pI (pb_pI h 217 0 0) 217 36 y) := by simp only [f_223, if_pos hi, y2 _ hq, Option.bind_some, if_true]
    exact ⟨-2, h, pb_pI (pb_pI h 217 0 0) 217 36 y, by simp only [f_158, if_pos (mi_0 H), mr_0_0 H, Option.bind_some, if_pos (mi_1 H), e1, y1], ma_q_r h, by simp only [f_299, if_pos (mi_217 H), h3, Option.bind_some, if_true], ma_q_pI hq (by decide) _ _⟩
  · have hq3 : ma_q h (pb_pI (pb_pI h 217 0 0) 217 36 (nI k)) := ma_q_pI hq (by decide) _ _
    have hi3 : pb_is (pb_pI (pb_pI h 217 0 0) 217 36 (nI k)) 217 11 := hi
    have h3 : f_223 N (pb_pI h 217 0 0) 217 x (nI k) = some (0, pb_pI (pb_pI h 217 0 0) 217 36 (nI k)) := by simp only [f_223, if_pos hi, (y2 _ hq).1, Option.bind_some, i10, if_false, if_pos hi3, e2 _ hq3, if_true]
    exact ⟨-2, h, _, by simp only [f_158, if_pos (mi_0 H), mr_0_0 H, Option.bind_some, if_pos (mi_1 H), e1, y1], ma_q_r h, by simp only [f_299, if_pos (mi_217 H), h3, Option.bind_some, if_true], hq3⟩
  · have h3 : f_223 N (pb_pI h 217 0 0) 217 x y = some (0, pb_pI (pb_pI h 217 0 0) 217 36 y) := by simp only [f_223, if_pos hi, y2 _ hq, Option.bind_some, if_true]
    exact ⟨-2, h, pb_pI (pb_pI h 217 0 0) 217 36 y, by simp only [f_158, if_pos (mi_0 H), mr_0_0 H, Option.bind_some, if_pos (mi_1 H), e1, y1], ma_q_r h, by simp only [f_299, if_pos (mi_217 H), h3, Option.bind_some, if_true], ma_q_pI hq (by decide) _ _⟩
  · obtain ⟨D, hD⟩ := ma_dds hg
    have SO := ma_SO0 O OT
    obtain ⟨g1, b1, b2, b3⟩ := c_28 H V O hc
    have H1 := ma_H_fr H b2
    have L1 := ma_L_cL L (by omega) b2
    have q1 : ma_q h g1 := ma_cq b2
    have top : f_158 N h 0 x (nI k) w = (if w = 0 then (if pb_is g1 0 10 then ((pb_R g1 0 8).bind fun q16 => (if pb_is g1 q16 1 then ((f_42 N g1 q16 (18 + 5 * k)).bind fun (r18, h19) => (some ((r18, h19)))) else none)) else none) else if w = 1 then (if pb_is g1 0 10 then ((pb_R g1 0 8).bind fun q22 => (if pb_is g1 q22 1 then ((f_43 N g1 q22 (18 + 5 * k)).bind fun (r24, h25) => (some ((r24, h25)))) else none)) else none) else if w = 2 then (if pb_is g1 0 10 then ((pb_R g1 0 8).bind fun q28 => (if pb_is g1 q28 1 then ((f_44 N g1 q28 (18 + 5 * k)).bind fun (r30, h31) => (some ((r30, h31)))) else none)) else none) else if w = 3 then (if pb_is g1 0 10 then ((pb_R g1 0 8).bind fun q34 => (if pb_is g1 q34 1 then ((f_45 N g1 q34 (18 + 5 * k)).bind fun (r36, h37) => (some ((r36, h37)))) else none)) else none) else if w = 4 then (if pb_is g1 0 10 then ((pb_R g1 0 8).bind fun q40 => (if pb_is g1 q40 1 then ((f_47 N g1 q40 (18 + 5 * k) 0).bind fun (r42, h43) => (some ((r42, h43)))) else none)) else none) else if w = 5 then (if pb_is g1 0 10 then ((pb_R g1 0 8).bind fun q46 => (if pb_is g1 q46 1 then ((f_47 N g1 q46 (18 + 5 * k) 2).bind fun (r48, h49) => (some ((r48, h49)))) else none)) else none) else (some (((-2), g1)))) := by
      unfold f_158
      rw [if_pos (mi_0 H), mr_0_0 H, Option.bind_some, if_pos (mi_1 H), e1, Option.bind_some]
      dsimp only
      rw [y1, Option.bind_some]
      dsimp only
      rw [mr_0_8 H, Option.bind_some, if_pos (mi_200 H), b1, Option.bind_some]
    cases qa : ma_at w 6 with
    | false =>
      obtain ⟨g3, m1, m2, m3, m4⟩ := ma_la (N := N) H hk y2 e2 q1
      have r : f_168 w 0 5 = some 0 := by
        have := m_168 w (n := 6) (by decide)
        rw [qa] at this
        exact this
      have nw : ∀ j, j < 6 → ¬ w = nI j := fun j hj z => by
        rw [z, ma_at_nI (by omega) (by decide)] at qa
        exact absurd qa (by simp; omega)
      refine ⟨-2, g1, g3, ?_, q1, ?_, m2⟩
      · rw [top, if_neg (show ¬ w = 0 from nw 0 (by decide)), if_neg (show ¬ w = 1 from nw 1 (by decide)), if_neg (show ¬ w = 2 from nw 2 (by decide)), if_neg (show ¬ w = 3 from nw 3 (by decide)), if_neg (show ¬ w = 4 from nw 4 (by decide)), if_neg (show ¬ w = 5 from nw 5 (by decide))]
      · simp only [f_299, if_pos (mi_217 H1), m1, Option.bind_some, i10, if_false, r, not_true_eq_false]
    | true =>
      obtain ⟨v, hv, rfl⟩ := ma_at_ex (by decide) qa
      have r : f_168 (nI v) 0 5 = some 1 := by
        have := m_168 (nI v) (n := 6) (by decide)
        rw [qa] at this
        exact this
      have cl : ∃ g2, f_158 N h 0 x (nI k) (nI v) = some (af_r D (K, 0, 6, 0, 0) Y.1 v, g2) ∧ ma_fr af_L ma_cF g1 g2 := by
        rw [top]
        unfold af_r
        have : v = 0 ∨ v = 1 ∨ v = 2 ∨ v = 3 ∨ v = 4 ∨ v = 5 := by omega
        rcases this with rfl | rfl | rfl | rfl | rfl | rfl
        · obtain ⟨g2, a1, a2⟩ := c_42 (N := N) (T := Y.1) hD rfl hY SO (show 18 + 5 * k ≤ 40 by omega) H1 b3 L1 hN
          rw [if_pos (by decide), if_pos (mi_0 H1), mr_0_8 H1, Option.bind_some, if_pos (mi_200 H1), a1]
          exact ⟨g2, rfl, a2⟩
        · obtain ⟨g2, a1, a2⟩ := c_43 (N := N) (T := Y.1) hD rfl hY SO (show 18 + 5 * k ≤ 40 by omega) H1 b3 L1 hN
          rw [if_neg (by decide), if_pos (by decide), if_pos (mi_0 H1), mr_0_8 H1, Option.bind_some, if_pos (mi_200 H1), a1]
          exact ⟨g2, rfl, a2⟩
        · obtain ⟨g2, a1, a2⟩ := c_44 (N := N) (T := Y.1) hD rfl hY SO (show 18 + 5 * k ≤ 40 by omega) H1 b3 L1 hN
          rw [if_neg (by decide), if_neg (by decide), if_pos (by decide), if_pos (mi_0 H1), mr_0_8 H1, Option.bind_some, if_pos (mi_200 H1), a1]
          exact ⟨g2, rfl, a2⟩
        · obtain ⟨g2, a1, a2⟩ := c_45 (N := N) (T := Y.1) hD rfl hY SO (show 18 + 5 * k ≤ 40 by omega) H1 b3 L1 hN
          rw [if_neg (by decide), if_neg (by decide), if_neg (by decide), if_pos (by decide), if_pos (mi_0 H1), mr_0_8 H1, Option.bind_some, if_pos (mi_200 H1), a1]
          exact ⟨g2, rfl, a2⟩
        · obtain ⟨g2, a1, a2⟩ := c_47 (N := N) (T := Y.1) hD rfl hY SO (show 18 + 5 * k ≤ 40 by omega) H1 b3 L1 (v := 0) (i := 2) (q := 0) (.inl ⟨rfl, rfl, rfl⟩) hN
          rw [if_neg (by decide), if_neg (by decide), if_neg (by decide), if_neg (by decide), if_pos (by decide), if_pos (mi_0 H1), mr_0_8 H1, Option.bind_some, if_pos (mi_200 H1), a1]
          exact ⟨g2, rfl, a2⟩
        · obtain ⟨g2, a1, a2⟩ := c_47 (N := N) (T := Y.1) hD rfl hY SO (show 18 + 5 * k ≤ 40 by omega) H1 b3 L1 (v := 2) (i := 5) (q := 2) (.inr ⟨rfl, rfl, rfl⟩) hN
          rw [if_neg (by decide), if_neg (by decide), if_neg (by decide), if_neg (by decide), if_neg (by decide), if_pos (by decide), if_pos (mi_0 H1), mr_0_8 H1, Option.bind_some, if_pos (mi_200 H1), a1]
          exact ⟨g2, rfl, a2⟩
      obtain ⟨g2, c1, c2⟩ := cl
      have q2 : ma_q h g2 := ma_q_t q1 (af_q2 c2)
      have H2 := ma_H_q H q2
      obtain ⟨g3, m1, m2, m3, m4⟩ := ma_la (N := N) H hk y2 e2 q2
      have H3 := m3.1
      obtain ⟨g4, e4⟩ : ∃ g, g = pb_pI (pb_pI (pb_pI (pb_pI g3 217 47 (-1)) 217 48 0) 217 49 0) 217 50 0 := ⟨_, rfl⟩
      have H4 : ma_H g4 := by rw [e4]; exact H3
      have q4 : ma_q g3 g4 := by rw [e4]; exact ma_q_pI (ma_q_pI (ma_q_pI (ma_q_pI (ma_q_r _) (by decide) _ _) (by decide) _ _) (by decide) _ _) (by decide) _ _
      have k4 : ∀ j, j < 47 → pb_I g4 217 j = pb_I g3 217 j := fun j hj => by rw [e4, ma_Ik, if_pos rfl, if_neg (by omega), ma_Ik, if_pos rfl, if_neg (by omega), ma_Ik, if_pos rfl, if_neg (by omega), ma_Ik, if_pos rfl, if_neg (by omega)]
      have o4 : ∀ o, o ≠ 217 → pb_I g4 o = pb_I g3 o := fun o q => by rw [e4, ma_I_pI, if_neg q, ma_I_pI, if_neg q, ma_I_pI, if_neg q, ma_I_pI, if_neg q]
      obtain ⟨g5, f1, f2, f3⟩ := m_299a (N := N) H4 (nI v) hN
      have H5 := ma_H_fr H4 f2
      have k5 : ∀ j, pb_I g5 217 j = pb_I g4 217 j := fun j => by rw [ma_fr_o f2 (by decide) (by decide)]
      have D5 : ma_D g5 (K, 0, 6, 0, 0) := ma_D_k (ma_D0 m3) (fun j p q => by rw [k5, k4 j (by omega)]) (fun o q => by rw [ma_fr_o f2 (by simp; omega) (by simp), o4 o (by omega)])
      have v5 : ma_yv g5 k Y := ma_yv_k m4 (by rw [k5, k4 36 (by decide)]) (by rw [ma_fr_o f2 (by decide) (by decide), o4 224 (by decide)])
      have A5 : af_A g5 D (K, 0, 6, 0, 0) 0 := by
        refine ⟨?_, ?_, ?_, ?_, fun m hm => (f3 m hm).1, fun c hc => (f3 c hc).2⟩
        · rw [k5, e4, ma_Ik, if_pos rfl, if_neg (by decide), ma_Ik, if_pos rfl, if_neg (by decide), ma_Ik, if_pos rfl, if_neg (by decide), ma_Ik, if_pos rfl, if_pos rfl]; rfl
        · rw [k5, e4, ma_Ik, if_pos rfl, if_neg (by decide), ma_Ik, if_pos rfl, if_neg (by decide), ma_Ik, if_pos rfl, if_pos rfl]; rfl
        · rw [k5, e4, ma_Ik, if_pos rfl, if_neg (by decide), ma_Ik, if_pos rfl, if_pos rfl]; rfl
        · rw [k5, e4, ma_Ik, if_pos rfl, if_pos rfl]; rfl
      obtain ⟨g6, p1, p2, p3⟩ := m_299b (N := N) (T := Y.1) hD rfl hY SO H5 D5 v5 A5 (nI v) hN
      have H6 := ma_H_fr H5 p2
      refine ⟨_, g2, g6, c1, q2, ?_, ma_q_t m2 (ma_q_t q4 (ma_q_t (ma_q_fr f2 (by decide)) (af_mq p2)))⟩
      have fin := m_299c (N := N) (T := Y.1) hY H6 p3 hv hN
      simp only [f_299, if_pos (mi_217 H2), m1, Option.bind_some, i10, if_false, r, not_false_eq_true, if_true, if_pos (mi_217 H3), ← e4, f1, p1, fin]
end
