/-! text: the model reads a text -/
def tx_S (h : pb_HP) (B : Nat → Int32) (n s i : Nat) (p : Nat × Nat) (D : tx_T) : Prop := tx_E h B n ∧ tx_M h B n i ∧ tx_P h p i ∧ tx_W h s ∧ (p.1 = 0 → tx_N h s D) ∧ tx_G D
theorem tx_N_e {h g : pb_HP} {s : Nat} {D : tx_T} (Nn : tx_N h s D) (e6 : pb_I g 226 = pb_I h 226) (e0 : pb_I g 217 20 = pb_I h 217 20) (e1 : pb_I g 217 21 = pb_I h 217 21) : tx_N g s D := by
  unfold tx_N tx_NK ma_Ly
  rw [e6, e0, e1]
  exact Nn
theorem tx_W_e {h g : pb_HP} {s : Nat} (W : tx_W h s) (e6 : pb_I g 226 = pb_I h 226) : tx_W g s := by
  unfold tx_W
  rw [e6]
  exact W
section
variable {h : pb_HP} {N n i s : Nat} {B : Nat → Int32} {p : Nat × Nat} {D : tx_T}
theorem m_192s (S : tx_S h B n s i p D) (hB : ∀ j, j < n → (B j).toInt8.toInt32 = B j) (hn : n ≤ 600) (hi : i ≤ n) (hs : s < 3) (ht : (sp_tk B n i).1 ≠ 0) (hN : 3000 < N) : (tx_lk B n s i = true ∧ ∃ g, f_192_2s N 217 (nI s) (1, h) = some (.inl (1, g)) ∧ ma_fr [226] tx_fl h g ∧ tx_S g B n s (tx_nx B n s i) (sp_lf B n s i p D) (sp_ld B n s i p D)) ∨ (tx_lk B n s i = false ∧ ∃ g, f_192_2s N 217 (nI s) (1, h) = some (.inl (0, g)) ∧ ma_fr [226] tx_fl h g ∧ pb_I g 217 15 = nI (sp_wr B n s i)) := by
  obtain ⟨E, M, P, W, Nn, G⟩ := S
  have H := E.1
  have tb := sp_tk_b (B := B) hi
  have he := sp_le_b (B := B) hi
  have f := sp_fl_b hs
  have ln := tx_line (s := s) hB hi hs
  have lb := sp_li_b (B := B) (n := n) (i := i) hs
  have lt := tb.2.2.2.2.2 ht
  obtain ⟨h1, e1⟩ : ∃ g, g = pb_pI h 217 22 1 := ⟨_, rfl⟩
  have H1 : ma_H h1 := by rw [e1]; exact H
  have fr1 : ma_fr [] tx_fl h h1 := by rw [e1]; exact ma_fr_pI (ma_fr_r _ _ _) (.inr (by decide)) _
  have c1 : ∀ k, k ≠ 22 → pb_I h1 217 k = pb_I h 217 k := fun k q => by rw [e1, ma_Ik, if_pos rfl, if_neg q]
  have o6 : pb_I h1 226 = pb_I h 226 := by rw [e1, ma_I_pI, if_neg (by decide)]
  have J : tx_J h1 B n (sp_le B n i) (sp_tk B n i).2.1 s p D := ⟨tx_E_fr E fr1 (by decide) (by decide) (by decide) (by decide), by rw [c1 9 (by decide)]; exact M.1, lt, tx_P_m (tx_P_e P (c1 16 (by decide)) (c1 17 (by decide))) tb.1, by rw [e1, ma_Ik, if_pos rfl, if_pos rfl], tx_W_e W o6, fun q => tx_N_e (Nn q) o6 (c1 20 (by decide)) (c1 21 (by decide)), G⟩
  have e11 : pb_I h1 217 11 = nI (sp_tk B n i).2.1 := by rw [c1 11 (by decide)]; exact M.2.1
  obtain ⟨LF, eLF⟩ : ∃ LF, LF = (if s = 0 then f_187 N h1 217 (tx_wn B (sp_tk B n i)) (nI (sp_tk B n i).2.1) else if s = 1 then f_190 N h1 217 (tx_wn B (sp_tk B n i)) (nI (sp_tk B n i).2.1) else f_191 N h1 217 (tx_wn B (sp_tk B n i)) (nI (sp_tk B n i).2.1)) := ⟨_, rfl⟩
  have good : sp_li B n s i < sp_fl (s + 1) → ∃ r g, LF = some (r, g) ∧ tx_O h1 g B n (sp_le B n i) (sp_li B n s i) s (sp_lq B n s i p D) D r := fun c => by
    have w := ln.1 c
    have w : tx_wn B (sp_tk B n i) = tx_w (sp_li B n s i) := w
    rw [eLF, w]
    have : s = 0 ∨ s = 1 ∨ s = 2 := by omega
    rcases this with z | z | z
    · subst z
      rw [if_pos rfl]
      exact m_187 (N := N) (show sp_li B n 0 i < 5 from c) J hB hn he hN
    · subst z
      rw [if_neg (by decide), if_pos rfl]
      exact m_190 (N := N) (show 5 ≤ sp_li B n 1 i from lb.1) (show sp_li B n 1 i < 12 from c) J hB hn he hN
    · subst z
      rw [if_neg (by decide), if_neg (by decide)]
      exact m_191 (N := N) (show 12 ≤ sp_li B n 2 i from lb.1) (show sp_li B n 2 i < 14 from c) J hB hn he hN
  have bad : ¬ sp_li B n s i < sp_fl (s + 1) → ∃ g, LF = some (0, g) ∧ ma_fr [] [(217, 15)] h1 g ∧ pb_I g 217 15 = nI (sp_tk B n i).2.1 := fun c => by
    have ne := ln.2
    have el : sp_ln B (sp_tk B n i) s = sp_fl (s + 1) := by
      have : sp_li B n s i = sp_ln B (sp_tk B n i) s := rfl
      omega
    rw [el] at ne
    rw [eLF]
    have : s = 0 ∨ s = 1 ∨ s = 2 := by omega
    rcases this with z | z | z
    · subst z
      rw [if_pos rfl]
      exact m_187n H1 e11 (fun l hl => ne l (Nat.zero_le _) hl) _
    · subst z
      rw [if_neg (by decide), if_pos rfl]
      exact m_190n H1 e11 (fun l hl hm => ne l hl hm) _
    · subst z
      rw [if_neg (by decide), if_neg (by decide)]
      exact m_191n H1 e11 (fun l hl hm => ne l hl hm) _
  have top : f_192_2s N 217 (nI s) (1, h) = LF.bind fun (r, g) => f_192_77 N g 217 (nI s) r := by
    unfold f_192_2s
    dsimp only
    rw [if_neg (by decide), if_pos (mi_217 H), M.2.2.1, if_neg (fun z => ht ((sp_km_0 tb.2.2.2.1).mp z)), M.2.1]
    have v : (if ¬ nI (sp_km (sp_tk B n i).1) = 2 then f_192_34 N h 217 (nI s) (nI (sp_tk B n i).2.1) 0 else f_192_34 N h 217 (nI s) (nI (sp_tk B n i).2.1) (pb_J h 217 14)) = f_192_34 N h 217 (nI s) (nI (sp_tk B n i).2.1) (tx_wn B (sp_tk B n i)) := by
      unfold tx_wn
      by_cases c : (sp_tk B n i).1 = 1
      · rw [if_neg (not_not_intro ((sp_km_2 tb.2.2.2.1).mpr c)), if_pos c, M.2.2.2.2 c]
      · rw [if_pos (fun z => c ((sp_km_2 tb.2.2.2.1).mp z)), if_neg c]
    rw [v, eLF]
    unfold f_192_34
    rw [if_pos (mi_217 H), ← e1]
    have : s = 0 ∨ s = 1 ∨ s = 2 := by omega
    rcases this with z | z | z
    · subst z
      rw [if_neg (not_not_intro (show nI 0 = 0 from rfl)), if_pos rfl]
    · subst z
      rw [if_pos (show ¬ nI 1 = 0 by decide), if_neg (not_not_intro (show nI 1 = 1 from rfl)), if_neg (by decide), if_pos rfl]
    · subst z
      rw [if_pos (by decide), if_pos (by decide), if_neg (by decide), if_neg (by decide)]
  have f226 : ma_fr [226] tx_fl h h1 := ma_fr_w fr1 (by decide) (by decide)
  by_cases c : sp_li B n s i < sp_fl (s + 1)
  · obtain ⟨r, g, a1, O⟩ := good c
    have Hg := ma_H_fr H1 O.1
    have fg : ma_fr [226] tx_fl h g := ma_fr_t f226 O.1
    rw [top, a1, Option.bind_some]
    dsimp only
    rcases O.2 with ⟨z1, z2, z3⟩ | ⟨z1, z2, z3, z4, z5, z6⟩
    · subst z1
      right
      refine ⟨?_, g, ?_, fg, ?_⟩
      · cases q : tx_lk B n s i
        · rfl
        · have := (tx_lk_3.mp q).2.1; omega
      · unfold f_192_77 f_192_95
        rw [if_pos rfl, if_pos rfl]
      · unfold sp_wr; rw [if_pos c]; exact z3
    · subst z1
      have le := sp_te_le (B := B) he (sp_nc (sp_li B n s i))
      have tb2 := sp_tk_b (B := B) le
      have tb4 : (sp_tn B n (sp_le B n i) (sp_nc (sp_li B n s i))).1 ≤ 4 := tb2.2.2.2.1
      have m12 : pb_I g 217 12 = nI (sp_km (sp_tn B n (sp_le B n i) (sp_nc (sp_li B n s i))).1) := z3.2.2.1
      by_cases c3 : (sp_tn B n (sp_le B n i) (sp_nc (sp_li B n s i))).1 = 3
      · left
        have Eg : tx_E g B n := tx_E_fr E fg (by decide) (by decide) (by decide) (by decide)
        obtain ⟨g', b1, b2, b3⟩ := m_180 (N := N) (i := tx_nx B n s i) Eg hB hn (sp_te_le he _) z3.1 hN
        have o6 : pb_I g' 226 = pb_I g 226 := ma_fr_o b2 (by decide) (by decide)
        refine ⟨tx_lk_3.mpr ⟨c, z2, c3⟩, g', ?_, ma_fr_t fg (ma_fr_w b2 (by decide) (by decide)), tx_E_fr Eg b2 (by decide) (by decide) (by decide) (by decide), b3, ?_, tx_W_e z5 o6, fun q => ?_, sp_ld_G hs c G⟩
        · unfold f_192_77
          rw [if_neg (by decide), if_pos (mi_217 Hg), m12, if_pos ((sp_km_4 tb4).mpr c3)]
          unfold f_192_95
          rw [if_neg (by decide), if_pos (mi_217 Hg), b1, Option.bind_some]
        · exact tx_P_m (tx_P_e z4 (b2.2.2 217 16 (by decide) (by decide)) (b2.2.2 217 17 (by decide) (by decide))) (sp_te_mo he _)
        · have q' : (sp_fn B n (sp_le B n i) (sp_li B n s i) (sp_lq B n s i p D) (sp_nc (sp_li B n s i))).1 = 0 := q
          unfold sp_ld
          rw [if_pos q]
          exact tx_N_e (z6 q') o6 (b2.2.2 217 20 (by decide) (by decide)) (b2.2.2 217 21 (by decide) (by decide))
      · right
        obtain ⟨g', b1, b2, b3⟩ := m_181 (q := (sp_tn B n (sp_le B n i) (sp_nc (sp_li B n s i))).2.1) Hg z3.2.1
        refine ⟨?_, g', ?_, ma_fr_t fg (ma_fr_w b2 (by decide) (by decide)), ?_⟩
        · cases q : tx_lk B n s i
          · rfl
          · exact absurd (tx_lk_3.mp q).2.2 c3
        · unfold f_192_77
          rw [if_neg (by decide), if_pos (mi_217 Hg), m12, if_neg (fun z => c3 ((sp_km_4 tb4).mp z)), b1, Option.bind_some]
          dsimp only
          unfold f_192_95
          rw [if_pos rfl]
        · unfold sp_wr; rw [if_pos c, z2]; exact b3
  · right
    obtain ⟨g, a1, a2, a3⟩ := bad c
    refine ⟨?_, g, ?_, ma_fr_t f226 (ma_fr_w a2 (by decide) (by decide)), ?_⟩
    · cases q : tx_lk B n s i
      · rfl
      · exact absurd (tx_lk_3.mp q).1 c
    · rw [top, a1, Option.bind_some]
      dsimp only
      unfold f_192_77 f_192_95
      rw [if_pos rfl, if_pos rfl]
    · unfold sp_wr; rw [if_neg c]; exact a3
theorem m_192l (hB : ∀ j, j < n → (B j).toInt8.toInt32 = B j) (hn : n ≤ 600) (hs : s < 3) (hN : 3000 < N) : ∀ m i p D h M, n - i < m → n - i + 1 < M → i ≤ n → tx_S h B n s i p D → ∃ r g, pb_wl (f_192_2s N 217 (nI s)) M (1, h) = some (r, g) ∧ ma_fr [226] tx_fl h g ∧ ((r = 0 ∧ ∃ w D', sp_rd B n s m i p D = ((1, w + 1), D') ∧ pb_I g 217 15 = nI w) ∨ (r = 1 ∧ ∃ p' D', sp_rd B n s m i p D = (if s = 0 ∧ p'.1 = 0 ∧ (D'.1 0 0 < D'.2.1.1 ∨ D'.1 0 1 < D'.2.1.2) then (4, n + 1) else p', D') ∧ tx_P g p' n ∧ pb_I g 217 11 = nI n ∧ (p'.1 = 0 → tx_N g s D') ∧ tx_G D'))
  | 0, i, p, D, h, M, hm, _, _, _ => absurd hm (Nat.not_lt_zero _)
  | m + 1, i, p, D, h, M, hm, hM, hi, S => by
    obtain ⟨M', rfl⟩ : ∃ M', M = M' + 2 := ⟨M - 2, by omega⟩
    have tb := sp_tk_b (B := B) hi
    unfold sp_rd
    by_cases ht : (sp_tk B n i).1 = 0
    · rw [if_pos ht]
      have en := tb.2.2.2.2.1 ht
      obtain ⟨E, M2, P, W, Nn, G⟩ := S
      have u : f_192_2s N 217 (nI s) (1, h) = some (.inr (1, h)) := by
        unfold f_192_2s
        dsimp only
        rw [if_neg (by decide), if_pos (mi_217 E.1), M2.2.2.1, if_pos ((sp_km_0 tb.2.2.2.1).mpr ht)]
      unfold pb_wl
      rw [u]
      refine ⟨1, h, rfl, ma_fr_r _ _ _, .inr ⟨rfl, p, D, rfl, tx_P_m P (by omega), ?_, Nn, G⟩⟩
      rw [M2.2.1, en.1]
    · rw [if_neg ht]
      rcases m_192s (N := N) S hB hn hi hs ht hN with ⟨a1, g, a2, a3, a4⟩ | ⟨a1, g, a2, a3, a4⟩
      · have nx := tx_nx_b (s := s) hi ht
        obtain ⟨r, g', b1, b2, b3⟩ := m_192l hB hn hs hN m (tx_nx B n s i) _ _ g (M' + 1) (by omega) (by omega) nx.2 a4
        refine ⟨r, g', ?_, ma_fr_t a3 b2, ?_⟩
        · unfold pb_wl
          rw [a2]
          exact b1
        · rw [if_pos a1]; exact b3
      · refine ⟨0, g, ?_, a3, .inl ⟨rfl, sp_wr B n s i, D, ?_, a4⟩⟩
        · unfold pb_wl
          rw [a2]
          dsimp only
          unfold pb_wl f_192_2s
          dsimp only
          rw [if_pos rfl]
        · rw [if_neg (by rw [a1]; decide)]
end
