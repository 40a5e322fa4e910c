/-! text: the developers read a text -/
def tx_0 : tx_T := (fun _ _ => 0, (0, 0), (0, fun _ _ => 0), (0, fun _ _ => 0))
theorem tx_0_G : tx_G tx_0 := ⟨Nat.zero_le _, Nat.zero_le _, fun _ => ⟨Nat.zero_le _, show 0 < 64 by decide, Nat.zero_le _, Nat.zero_le _, show 0 < 64 by decide, Nat.zero_le _⟩, Nat.zero_le _, Nat.zero_le _, fun _ _ => rfl, fun _ _ => rfl, ⟨Nat.zero_le _, fun j hj => absurd hj (Nat.not_lt_zero j)⟩, Nat.zero_le _, fun j hj => absurd hj (Nat.not_lt_zero j)⟩
theorem ma_H_pR {h : pb_HP} (H : ma_H h) (v : Option Nat) : ma_H (pb_pR h 163 5 v) := ⟨H.1, fun o k q => by
  rw [← H.2 o k q]
  show va_up h.2.2.2 163 (va_up (h.2.2.2 163) 5 v) o k = h.2.2.2 o k
  unfold va_up
  by_cases a : o = 163
  · have b : ¬ k = 5 := fun z => q ⟨a, z⟩
    simp [a, b]
  · simp [a]⟩
theorem ma_R_pR (h : pb_HP) (v : Option Nat) : pb_R (pb_pR h 163 5 v) 163 5 = v := by
  show va_up h.2.2.2 163 (va_up (h.2.2.2 163) 5 v) 163 5 = v
  unfold va_up; simp
section
variable {h : pb_HP} {N n i s : Nat} {B : Nat → Int32} {D : tx_T} {p : Nat × Nat}
theorem c_98 (H : ma_H h) (C : tx_C h D) (G : tx_G D) : f_98 h 163 = some (if D.1 0 0 < D.2.1.1 ∨ D.1 0 1 < D.2.1.2 then 1 else 0) := by
  have g1 := G.1
  have g2 := G.2.1
  have g4 := G.2.2.2.1
  have g5 := G.2.2.2.2.1
  unfold f_98
  rw [if_pos (mi_163 H), mr_163_0 H, Option.bind_some, if_pos (mi_164 H), C.1.2.1, C.1.2.2.1, C.2.1, C.2.2.1]
  by_cases c : D.1 0 0 < D.2.1.1
  · rw [if_pos ((nI_ltI (by omega) (by omega)).mpr c), if_pos (.inl c)]
  · rw [if_neg (fun z => c ((nI_ltI (by omega) (by omega)).mp z))]
    by_cases c2 : D.1 0 1 < D.2.1.2
    · rw [if_neg (fun z => by have := (nI_leI (show D.2.1.2 < 2 ^ 31 by omega) (show D.1 0 1 < 2 ^ 31 by omega)).mp z; omega), if_pos (.inr c2)]
    · rw [if_pos ((nI_leI (show D.2.1.2 < 2 ^ 31 by omega) (show D.1 0 1 < 2 ^ 31 by omega)).mpr (by omega)), if_neg (by omega)]
theorem c_85l (hB : ∀ j, j < n → (B j).toInt8.toInt32 = B j) (hn : n ≤ 600) (hs : s < 3) (hN : 3000 < N) : ∀ m i k p D h M, n - i < m → n - i < M → k ≤ i → i ≤ n → tx_D h B n i → tx_F h p → (p.1 ≤ 4 ∧ p.2 ≤ n + 1) → tx_C h D → tx_G D → (s ≠ 0 → D.2.1 = (0, 0)) → ∃ g, pb_wl (f_85_9s N 163 (nI s)) M (nI k, h) = some (.inl g) ∧ ma_fr tx_la [] h g ∧ tx_F g (sp_rd B n s m i p D).1 ∧ ((sp_rd B n s m i p D).1.1 = 0 → tx_C g (sp_rd B n s m i p D).2)
  | 0, i, k, p, D, h, M, hm, _, _, _, _, _, _, _, _, _ => absurd hm (Nat.not_lt_zero _)
  | m + 1, i, k, p, D, h, M, hm, hM, hk, hi, DD, F, hp, C, G, hz => by
    obtain ⟨M', rfl⟩ : ∃ M', M = M' + 1 := ⟨M - 1, by omega⟩
    obtain ⟨g1, a1, a2, a3, a4, a5⟩ := c_88 (N := N) DD hn hi hN
    obtain ⟨H, t, d6, dB, d9⟩ := DD
    have H1 := ma_H_fr H a2
    have tb := sp_tk_b (B := B) hi
    have t1 : pb_R g1 163 5 = some 40 := by rw [a2.2.1]; exact t
    have b6 : pb_I g1 163 6 = nI n := by rw [a2.2.2 163 6 (by decide) (by decide)]; exact d6
    have bB : ∀ j, j < n → pb_I g1 40 j = B j := fun j hj => by rw [ma_fr_o a2 (by decide) (by decide)]; exact dB j hj
    have F1 : tx_F g1 p := ⟨by rw [a2.2.2 163 3 (by decide) (by decide)]; exact F.1, by rw [a2.2.2 163 4 (by decide) (by decide)]; exact F.2⟩
    have C1 : tx_C g1 D := tx_C_e C (fun o a b => ma_fr_o a2 (by simp) (by simp; omega)) (a2.2.2 163 10 (by decide) (by decide)) (a2.2.2 163 11 (by decide) (by decide))
    have f1 : ma_fr tx_la [] h g1 := ma_fr_w a2 (by decide) (by decide)
    have e0 : ¬ nI n < nI k := fun z => by have := (nI_ltI (show n < 2 ^ 31 by omega) (show k < 2 ^ 31 by omega)).mp z; omega
    have u : f_85_9s N 163 (nI s) (nI k, h) = (if ¬ (pb_I g1 163 7) = 0 then ((f_91 N g1 163 (nI s)).bind fun (r8, h9) => (if ¬ r8 = 0 then (some (.inl ((nI k + 1, h9)))) else (if pb_is h9 163 6 then (some (.inr (.inl (pb_pI (pb_pI h9 163 3 1) 163 4 (pb_I (pb_pI h9 163 3 1) 163 8))))) else none))) else (if ¬ (pb_I g1 163 3) = 0 then (some (.inr (.inl g1))) else ((f_98 g1 163).bind fun r12 => (if r12 = 0 then (some (.inr (.inl g1))) else ((f_87 g1 163 4 (pb_I g1 163 6)).bind fun h14 => (some (.inr (.inl h14)))))))) := by
      unfold f_85_9s
      dsimp only
      rw [if_pos (mi_163 H), d6, if_neg e0, a1, Option.bind_some, if_pos (mi_163 H1)]
    unfold pb_wl
    rw [u, a3]
    unfold sp_rd
    by_cases c : (sp_tk B n i).1 = 0
    · rw [if_neg (not_not_intro (show nI (sp_tk B n i).1 = 0 by rw [c]; rfl)), if_pos c, F1.1]
      by_cases c0 : p.1 = 0
      · rw [if_neg (not_not_intro (show nI p.1 = 0 by rw [c0]; rfl)), c_98 H1 C1 G, Option.bind_some]
        by_cases cm : D.1 0 0 < D.2.1.1 ∨ D.1 0 1 < D.2.1.2
        · have s0 : s = 0 := Classical.byContradiction fun q => by
            rw [hz q] at cm
            rcases cm with z | z <;> exact absurd z (Nat.not_lt_zero _)
          obtain ⟨g2, y1, y2, y3⟩ := c_87 H1 F1 hp.1 4 n
          have y1 : f_87 g1 163 4 (nI n) = some g2 := y1
          rw [if_pos cm, if_neg (by decide), b6, y1, Option.bind_some, if_pos (⟨s0, c0, cm⟩ : s = 0 ∧ p.1 = 0 ∧ (D.1 0 0 < D.2.1.1 ∨ D.1 0 1 < D.2.1.2))]
          refine ⟨g2, rfl, ma_fr_t f1 (ma_fr_w y2 (by decide) (by decide)), ?_, fun q => absurd (show (4 : Nat) = 0 from q) (by decide)⟩
          have : sp_bl p 4 n = (4, n + 1) := if_pos c0
          rw [this] at y3
          exact y3
        · rw [if_neg cm, if_pos rfl, if_neg (fun q : s = 0 ∧ p.1 = 0 ∧ (D.1 0 0 < D.2.1.1 ∨ D.1 0 1 < D.2.1.2) => cm q.2.2)]
          exact ⟨g1, rfl, f1, F1, fun _ => C1⟩
      · rw [if_pos (fun z => c0 ((lE0 (show p.1 < 2 ^ 31 by omega)).mp z)), if_neg (fun q : s = 0 ∧ p.1 = 0 ∧ (D.1 0 0 < D.2.1.1 ∨ D.1 0 1 < D.2.1.2) => c0 q.2.1)]
        exact ⟨g1, rfl, f1, F1, fun _ => C1⟩
    · rw [if_pos (fun z => c ((lE0 (show (sp_tk B n i).1 < 2 ^ 31 by omega)).mp z)), if_neg c]
      obtain ⟨r, g2, y1, y2, y3⟩ := c_91 (N := N) (h := g1) H1 t1 b6 bB hB hn hi a3 a4 a5 F1 hp C1 G hs hN
      have H2 := ma_H_fr H1 y2
      rw [y1, Option.bind_some]
      rcases y3 with ⟨x1, x2, x3, x4, x5, x6⟩ | ⟨x1, x2, x3⟩
      · subst x2
        have nx := tx_nx_b (s := s) hi c
        dsimp only
        rw [if_pos (by decide), if_pos x1, nI_1]
        dsimp only
        obtain ⟨g3, w1, w2, w3, w4⟩ := c_85l hB hn hs hN m (tx_nx B n s i) (k + 1) (sp_lf B n s i p D) (sp_ld B n s i p D) g2 M' (by omega) (by omega) (by omega) nx.2 ⟨H2, by rw [y2.2.1]; exact t1, x3, fun j hj => by rw [ma_fr_o y2 (by decide) (by decide)]; exact bB j hj, x4⟩ x5 (sp_lf_4 hi hp) x6 (sp_ld_G hs (tx_lk_3.mp x1).1 G) (fun q => sp_ld_2 hs q (hz q))
        exact ⟨g3, w1, ma_fr_t f1 (ma_fr_t y2 w2), w3, w4⟩
      · subst x2
        dsimp only
        rw [if_neg (not_not_intro rfl), if_pos (mi_163 H2), if_neg (by rw [x1]; decide)]
        refine ⟨_, rfl, ma_fr_pI (ma_fr_pI (ma_fr_t f1 y2) (.inl (by decide)) _) (.inl (by decide)) _, ⟨?_, ?_⟩, fun q => absurd (show (1 : Nat) = 0 from q) (by decide)⟩
        · rw [ma_Ik, if_pos rfl, if_neg (by decide), ma_Ik, if_pos rfl, if_pos rfl]; rfl
        · rw [ma_Ik, if_pos rfl, if_pos rfl, ma_Ik, if_pos rfl, if_neg (by decide), x3]; exact (mI_s _).symm
theorem c_1 (H : ma_H h) (hN : 3000 < N) : ∃ g, f_1 N h 164 = some g ∧ ma_fr [164, 166, 169, 170] [] h g ∧ ma_V g 164 (fun _ _ => 0) := by
  have H0 : ma_H (pb_pI (pb_pI h 164 0 0) 164 1 0) := H
  obtain ⟨g1, a1, a2, a3⟩ := c_306 (N := N) (h := pb_pI (pb_pI h 164 0 0) 164 1 0) (o := 166) (n := 6) H0.1 (by decide) (by decide) (by decide) 0 hN
  have H1 := ma_H_fr H0 a2
  obtain ⟨g2, b1, b2, b3⟩ := c_306 (N := N) (h := g1) (o := 169) (n := 6) H1.1 (by decide) (by decide) (by decide) 0 hN
  have H2 := ma_H_fr H1 b2
  obtain ⟨g3, c1, c2, c3⟩ := c_306 (N := N) (h := g2) (o := 170) (n := 36) H2.1 (by decide) (by decide) (by decide) 0 hN
  refine ⟨g3, ?_, ?_, ma_ct164, ?_, ?_, fun m hm => absurd hm (Nat.not_lt_zero m), fun m hm => ?_, fun m hm => absurd hm (Nat.not_lt_zero m), fun m hm => absurd hm (Nat.not_lt_zero m), fun m hm => ?_, fun m hm => ?_⟩
  · unfold f_1
    rw [if_pos (mi_164 H), mr_164_3 H, Option.bind_some, a1, Option.bind_some, if_pos (mi_164 H1), mr_164_6 H1, Option.bind_some, b1, Option.bind_some, if_pos (mi_164 H2), mr_164_7 H2, Option.bind_some, c1]
    rfl
  · have f0 : ma_fr [164, 166, 169, 170] [] h (pb_pI (pb_pI h 164 0 0) 164 1 0) := ma_fr_pI (ma_fr_pI (ma_fr_r _ _ _) (.inl (by decide)) _) (.inl (by decide)) _
    exact ma_fr_t (ma_fr_t (ma_fr_t f0 (ma_fr_w a2 (by decide) (by decide))) (ma_fr_w b2 (by decide) (by decide))) (ma_fr_w c2 (by decide) (by decide))
  · rw [ma_fr_o c2 (by decide) (by decide), ma_fr_o b2 (by decide) (by decide), ma_fr_o a2 (by decide) (by decide), ma_Ik, if_pos rfl, if_neg (by decide), ma_Ik, if_pos rfl, if_pos rfl]; rfl
  · rw [ma_fr_o c2 (by decide) (by decide), ma_fr_o b2 (by decide) (by decide), ma_fr_o a2 (by decide) (by decide), ma_Ik, if_pos rfl, if_pos rfl]; rfl
  · show pb_I g3 166 m = _
    rw [ma_fr_o c2 (by decide) (by decide), ma_fr_o b2 (by decide) (by decide)]; exact a3 m hm
  · show pb_I g3 169 m = _
    rw [ma_fr_o c2 (by decide) (by decide)]; exact b3 m hm
  · exact c3 m hm
theorem c_86 (H : ma_H h) (dB : ∀ j, j < n → pb_I h 40 j = B j) (hn : n ≤ 600) (hN : 3000 < N) : ∃ g, f_86 N h 163 40 (nI n) = some g ∧ tx_D g B n 0 ∧ (∀ o, o ∉ tx_la → pb_I g o = pb_I h o) ∧ tx_F g (0, 0) ∧ tx_C g tx_0 := by
  have HR := ma_H_pR H (some 40)
  have sz : (if Int32.ofNat (pb_SH 40).2 < nI n then Int32.ofNat (pb_SH 40).2 else nI n) = nI n := by
    have e : Int32.ofNat (pb_SH 40).2 = nI 600 := by rw [sh_40]; rfl
    rw [e]
    exact if_neg (fun z => by have := (nI_ltI (show 600 < 2 ^ 31 by omega) (show n < 2 ^ 31 by omega)).mp z; omega)
  unfold f_86
  rw [if_pos (mi_163 H), if_pos (mi_40 HR), if_pos (mi_163 HR), sz, mr_163_0 HR]
  refine pb_hb_ex (fun h4 e4 => ?_)
  rw [Option.bind_some, if_pos (mi_164 HR)]
  obtain ⟨h5, e5⟩ : ∃ g, g = pb_pI h4 163 11 0 := ⟨_, rfl⟩
  rw [← e5]
  have R5 : pb_R h5 = pb_R (pb_pR h 163 5 (some 40)) := by rw [e5, e4]; rfl
  have o5 : ∀ o, o ≠ 163 → pb_I h5 o = pb_I h o := fun o q => by
    rw [e5, e4]
    simp only [ma_I_pI, if_neg q]
    rfl
  have c6 : pb_I h5 163 6 = nI n := by rw [e5, e4]; simp only [ma_Ik, if_true]; simp
  have c9 : pb_I h5 163 9 = nI 0 := by rw [e5, e4]; simp only [ma_Ik, if_true]; simp; rfl
  have c3 : pb_I h5 163 3 = nI 0 := by rw [e5, e4]; simp only [ma_Ik, if_true]; simp; rfl
  have c4 : pb_I h5 163 4 = mI 0 := by rw [e5, e4]; simp only [ma_Ik, if_true]; simp; rfl
  have c10 : pb_I h5 163 10 = nI 0 := by rw [e5, e4]; simp only [ma_Ik, if_true]; simp; rfl
  have c11 : pb_I h5 163 11 = nI 0 := by rw [e5, ma_Ik, if_pos rfl, if_pos rfl]; rfl
  have H5 : ma_H h5 := by rw [e5, e4]; exact HR
  obtain ⟨g, a1, a2, a3⟩ := c_1 (N := N) H5 hN
  have Hg := ma_H_fr H5 a2
  have k : ∀ k, pb_I g 163 k = pb_I h5 163 k := fun k => congrFun (ma_fr_o a2 (by decide) (by decide)) k
  have w : ∀ o, o ≠ 171 → o ≠ 176 → pb_I (pb_pI (pb_pI g 171 0 0) 176 0 0) o = pb_I g o := fun o p q => by rw [ma_I_pI, if_neg q, ma_I_pI, if_neg p]
  rw [a1, Option.bind_some, if_pos (mi_163 Hg), mr_163_1 Hg, Option.bind_some, if_pos (mi_171 Hg), mr_163_2 Hg, Option.bind_some, if_pos (mi_176 Hg)]
  refine ⟨_, rfl, ⟨Hg, ?_, ?_, fun j hj => ?_, ?_⟩, fun o ho => ?_, ⟨?_, ?_⟩, ma_V_e a3 (fun o a b => w o (by omega) (by omega)), ?_, ?_, ⟨ma_lt171, ?_, fun j hj => absurd hj (Nat.not_lt_zero j)⟩, ma_lt176, ?_, fun j hj => absurd hj (Nat.not_lt_zero j)⟩
  · show pb_R g 163 5 = _
    rw [a2.2.1, R5]; exact ma_R_pR h (some 40)
  · rw [w _ (by decide) (by decide), k]; exact c6
  · rw [w _ (by decide) (by decide), ma_fr_o a2 (by decide) (by decide), o5 _ (by decide)]; exact dB j hj
  · rw [w _ (by decide) (by decide), k]; exact c9
  · have q : ∀ x, x ∈ tx_la → o ≠ x := fun x hx z => ho (z ▸ hx)
    rw [w _ (q 171 (by decide)) (q 176 (by decide)), ma_fr_o a2 (fun z => by simp at z; rcases z with z | z | z | z <;> exact absurd z (q _ (by decide))) (by simp), o5 _ (q 163 (by decide))]
  · rw [w _ (by decide) (by decide), k]; exact c3
  · rw [w _ (by decide) (by decide), k]; exact c4
  · rw [w _ (by decide) (by decide), k]; exact c10
  · rw [w _ (by decide) (by decide), k]; exact c11
  · rw [ma_Ik, if_neg (by decide), ma_Ik, if_pos rfl, if_pos rfl]; rfl
  · rw [ma_Ik, if_pos rfl, if_pos rfl]; rfl
theorem c_85 (H : ma_H h) (dB : ∀ j, j < n → pb_I h 40 j = B j) (hB : ∀ j, j < n → (B j).toInt8.toInt32 = B j) (hn : n ≤ 600) (hs : s < 3) (hN : 3000 < N) : ∃ g, f_85 N h 163 (nI s) 40 (nI n) = some g ∧ ma_H g ∧ (∀ o, o ∉ tx_la → pb_I g o = pb_I h o) ∧ tx_F g (sp_rd B n s (n + 1) 0 (0, 0) tx_0).1 ∧ ((sp_rd B n s (n + 1) 0 (0, 0) tx_0).1.1 = 0 → tx_C g (sp_rd B n s (n + 1) 0 (0, 0) tx_0).2) := by
  obtain ⟨g0, a1, a2, a3, a4, a5⟩ := c_86 (N := N) H dB hn hN
  obtain ⟨g, b1, b2, b3, b4⟩ := c_85l (N := N) (s := s) hB hn hs hN (n + 1) 0 0 (0, 0) tx_0 g0 N (by omega) (by omega) (Nat.le_refl _) (Nat.zero_le _) a2 a4 ⟨Nat.zero_le _, Nat.zero_le _⟩ a5 tx_0_G (fun _ => rfl)
  have b1 : pb_wl (f_85_9s N 163 (nI s)) N (0, g0) = some (.inl g) := b1
  refine ⟨g, ?_, ma_H_fr a2.1 b2, fun o ho => ?_, b3, b4⟩
  · unfold f_85
    rw [if_pos (mi_163 H), a1, Option.bind_some, b1, Option.bind_some]
  · rw [ma_fr_o b2 ho (by simp)]; exact a3 o ho
end
