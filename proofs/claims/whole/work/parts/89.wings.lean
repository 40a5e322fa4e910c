/-! wings: the model's search, and the call -/
theorem wg_E_z {K : ma_K} {m : Nat} : ∀ d c w, (∀ o, o < c + d → K 4 o = 0) → (∀ o, o < c → w o = 6) → ∃ w', wg_E K m d c w = some w' ∧ ∀ o, o < c + d → w' o = 6
  | 0, c, w, _, h => by
    unfold wg_E
    rw [if_pos (wg_cb_i.mpr (fun a ha b hb p q => by have := h a ha; omega))]
    exact ⟨w, rfl, h⟩
  | d + 1, c, w, hz, h => by
    unfold wg_E
    rw [if_pos (hz c (by omega))]
    obtain ⟨w', a, b⟩ := wg_E_z (m := m) d (c + 1) (wg_u w c 6) (fun o ho => hz o (by omega)) (fun o ho => by
      unfold wg_u
      by_cases e : o = c
      · rw [if_pos e]
      · rw [if_neg e]; exact h o (by omega))
    exact ⟨w', a, fun o ho => b o (by omega)⟩
theorem wg_E_0 {K : ma_K} : ∀ d c w o, c ≤ o → o < c + d → K 4 o ≠ 0 → wg_E K 0 d c w = none
  | 0, c, w, o, a, b, _ => by omega
  | d + 1, c, w, o, a, b, h => by
    unfold wg_E
    by_cases k : K 4 c = 0
    · rw [if_pos k]
      refine wg_E_0 d (c + 1) _ o ?_ (by omega) h
      by_cases e : o = c
      · rw [e] at h; exact absurd k h
      · omega
    · rw [if_neg k]; rfl
theorem wg_A {K : ma_K} {m : Nat} (O : ma_OK K) (hm : m ≤ 6) : m ^ wg_I K (K 0 1) (K 0 1) ≤ 46656 := by
  have i := wg_I_le K (K 0 1) (K 0 1)
  have n6 := O.2.1
  have a : m ^ wg_I K (K 0 1) (K 0 1) ≤ 6 ^ wg_I K (K 0 1) (K 0 1) := Nat.pow_le_pow_left hm _
  have b : 6 ^ wg_I K (K 0 1) (K 0 1) ≤ 6 ^ 6 := Nat.pow_le_pow_right (by decide) (by omega)
  have : (6 : Nat) ^ 6 = 46656 := by decide
  omega
/-- the first number that will do -/
def wg_r (K : ma_K) (m : Nat) : Nat := ma_fi (fun x => wg_cb K (wg_y K (K 0 1) m x) (K 0 1)) (m ^ wg_I K (K 0 1) (K 0 1)) 0
theorem wg_rE {K : ma_K} {m : Nat} (hm : 0 < m) : (wg_r K m < m ^ wg_I K (K 0 1) (K 0 1) → ∃ w', wg_E K m (K 0 1) 0 (fun _ => 0) = some w' ∧ ∀ o, o < K 0 1 → w' o = wg_y K (K 0 1) m (wg_r K m) o) ∧ (m ^ wg_I K (K 0 1) (K 0 1) ≤ wg_r K m → wg_E K m (K 0 1) 0 (fun _ => 0) = none) := by
  have := wg_num (K := K) (n := K 0 1) hm (K 0 1) 0 (fun _ => 0) 0 (by omega) (fun x _ _ o ho => absurd ho (Nat.not_lt_zero o))
  rw [Nat.zero_mul, Nat.zero_add, Nat.one_mul] at this
  exact this
theorem wg_y_le {K : ma_K} {m x : Nat} (hm : 0 < m) (h6 : m ≤ 6) (o : Nat) : wg_y K (K 0 1) m x o ≤ 6 := by
  unfold wg_y
  split
  · exact Nat.le_refl _
  · have := Nat.mod_lt (x / m ^ wg_I K (K 0 1) (K 0 1 - (o + 1))) hm
    omega
section
variable {h : pb_HP} {N m : Nat} {K : ma_K}
theorem m_291p (O : ma_OK K) (hm : m ≤ 6) (z : Int32) (hN : 50000 < N) : pb_wl (f_291_30s N h 217 (nI (wg_in K)) (nI m) z) N (1, 0) = some (nI (m ^ wg_I K (K 0 1) (K 0 1))) := by
  have i := wg_I_le K (K 0 1) (K 0 1)
  have n6 := O.2.1
  have o1 := m_172 (N := N) (s := wg_in K) (by have := wg_in_lt O; omega) (by omega)
  rw [wg_on O] at o1
  show pb_wl _ N ((fun j => (nI (m ^ j), nI j)) 0) = _
  refine ma_wl (fun j => (nI (m ^ j), nI j)) (wg_I K (K 0 1) (K 0 1)) N 0 (by omega) (fun j a b => ?_) ?_
  · simp only [f_291_30s, o1, Option.bind_some, if_neg (nI_ge (show j < wg_I K (K 0 1) (K 0 1) by omega) (by omega)), pk_mul, nI_1, Nat.pow_succ]
  · rw [Nat.zero_add]
    simp only [f_291_30s, o1, Option.bind_some, if_pos (nI_le (Nat.le_refl (wg_I K (K 0 1) (K 0 1))) (by omega))]
theorem m_291i (H : ma_H h) (M : ma_M h K) (O : ma_OK K) (hm : 0 < m) (hm6 : m ≤ 6) (hN : 50000 < N) : ∃ g, pb_wl (f_291_54s N 217 (nI (wg_in K)) (nI m) (nI (m ^ wg_I K (K 0 1) (K 0 1)))) N (0, 0, h) = some (if wg_r K m < m ^ wg_I K (K 0 1) (K 0 1) then 1 else 0, g) ∧ ma_fr [236] [] h g ∧ (wg_r K m < m ^ wg_I K (K 0 1) (K 0 1) → ∀ c, c < K 0 1 → pb_I g 236 c = nI (wg_y K (K 0 1) m (wg_r K m) c)) := by
  have A := wg_A O hm6
  have f := ma_fi_sp (fun x => wg_cb K (wg_y K (K 0 1) m x) (K 0 1)) (m ^ wg_I K (K 0 1) (K 0 1)) 0
  have f : 0 ≤ wg_r K m ∧ wg_r K m ≤ 0 + m ^ wg_I K (K 0 1) (K 0 1) ∧ (∀ j, 0 ≤ j → j < wg_r K m → wg_cb K (wg_y K (K 0 1) m j) (K 0 1) = false) ∧ (wg_r K m < 0 + m ^ wg_I K (K 0 1) (K 0 1) → wg_cb K (wg_y K (K 0 1) m (wg_r K m)) (K 0 1) = true) := f
  generalize m ^ wg_I K (K 0 1) (K 0 1) = a at *
  generalize wg_r K m = r at *
  obtain ⟨T, eT⟩ : ∃ T, T = if r < a then r + 1 else a := ⟨_, rfl⟩
  have lT : T ≤ 46657 := by rw [eT]; split <;> omega
  have lp : ∃ x, pb_wl (f_291_54s N 217 (nI (wg_in K)) (nI m) (nI a)) N (0, 0, h) = some x ∧ (x.1 = (if r < a then 1 else 0) ∧ ma_fr [236] [] h x.2 ∧ (r < a → ∀ c, c < K 0 1 → pb_I x.2 236 c = nI (wg_y K (K 0 1) m r c))) := by
    refine ma_lh (fun j s => s.2.1 = nI j ∧ ma_fr [236] [] h s.2.2 ∧ (j ≤ r → s.1 = 0) ∧ (j = r + 1 → s.1 = 1 ∧ ∀ c, c < K 0 1 → pb_I s.2.2 236 c = nI (wg_y K (K 0 1) m r c))) _ T 0 N _ (by omega) (by omega) ⟨rfl, ma_fr_r _ _ _, fun _ => rfl, fun q => absurd q (by omega)⟩ ?_ ?_
    · rintro j ⟨y1, y2, g⟩ _ hj ⟨h2, fg, p, q⟩
      dsimp only at h2 fg p q
      subst h2
      have jr : j ≤ r ∧ j < a := by
        rw [eT] at hj
        split at hj <;> omega
      have p := p jr.1
      subst p
      have Hg := ma_H_fr H fg
      have e25 : pb_I g 217 25 = nI (K 0 1) := by rw [ma_fr_o fg (by decide) (by decide)]; exact M.2.1
      obtain ⟨g1, a1, a2, a3⟩ := m_289 (N := N) (K := K) (m := m) (x := j) Hg e25 O hm hm6 (by omega) (by omega)
      have f1 := ma_fr_t fg a2
      have H1 := ma_H_fr Hg a2
      have M1 : ma_M g1 K := ma_M_fr M f1 (by decide) (by decide)
      have z := m_290 (N := N) (w := wg_y K (K 0 1) m j) H1 M1 O (fun c hc => ⟨a3 c hc, wg_y_le hm hm6 c⟩) (by omega)
      left
      refine ⟨(if wg_cb K (wg_y K (K 0 1) m j) (K 0 1) then 1 else 0, nI (j + 1), g1), ?_, rfl, f1, fun l => ?_, fun e => ?_⟩
      · simp only [f_291_54s, if_neg (nI_ge jr.2 (show a < 2 ^ 31 by omega)), not_true_eq_false, if_false, if_pos (mi_217 Hg), a1, Option.bind_some, if_pos (mi_217 H1), z, nI_1]
      · dsimp only; rw [f.2.2.1 j (by omega) (by omega)]; rfl
      · have e : j = r := by omega
        subst e
        dsimp only
        rw [f.2.2.2 (by omega)]
        exact ⟨rfl, a3⟩
    · rintro ⟨y1, y2, g⟩ ⟨h2, fg, p, q⟩
      dsimp only at h2 fg p q
      subst h2
      by_cases c : r < a
      · rw [if_pos c] at eT
        have q := q eT
        refine ⟨(y1, g), ?_, by dsimp only; rw [if_pos c]; exact q.1, fg, fun _ => q.2⟩
        by_cases d : a ≤ T
        · simp only [f_291_54s, if_pos (nI_le d (show T < 2 ^ 31 by omega))]
        · simp only [f_291_54s, if_neg (nI_ge (show T < a by omega) (show a < 2 ^ 31 by omega)), q.1, if_pos (show ¬ (1 : Int32) = 0 by decide)]
      · rw [if_neg c] at eT
        refine ⟨(y1, g), ?_, by dsimp only; rw [if_neg c]; exact p (by omega), fg, fun z => absurd z c⟩
        simp only [f_291_54s, if_pos (nI_le (show a ≤ T by omega) (show T < 2 ^ 31 by omega))]
  obtain ⟨⟨x, g⟩, x1, x2, x3, x4⟩ := lp
  dsimp only at x2 x3 x4
  subst x2
  exact ⟨g, x1, x3, x4⟩
theorem m_291 (H : ma_H h) (M : ma_M h K) (O : ma_OK K) {w' : Nat → Nat} (ew : wg_E K (wg_n K) (K 0 1) 0 (fun _ => 0) = some w') (hN : 50000 < N) : ∃ g, f_291 N h 217 (nI (wg_in K)) = some (nI (wg_n K), g) ∧ ma_fr [236] [] h g ∧ ∀ c, c < K 0 1 → pb_I g 236 c = nI (w' c) := by
  have b := wg_n_b O
  have n6 := O.2.1
  have i64 := wg_in_lt O
  unfold f_291
  by_cases z : ∀ c, c < K 0 1 → K 4 c = 0
  · have i0 : wg_in K = 0 := ma_fo_inv (g := fun c a => if K 4 c = 0 then a else a ||| 2 ^ c) (P := fun _ a => a = 0) (a0 := 0) rfl (K 0 1) (fun j a hj ha => by rw [if_pos (z j hj)]; exact ha)
    obtain ⟨w2, e1, e2⟩ := wg_E_z (K := K) (m := 0) (K 0 1) 0 (fun _ => 0) (fun o ho => z o (by omega)) (fun o ho => absurd ho (Nat.not_lt_zero o))
    have n0 : wg_n K = 0 := by
      rcases Nat.eq_zero_or_pos (wg_n K) with q | q
      · exact q
      · exact absurd (b.2.1 0 q) (by rw [e1]; simp)
    rw [n0, e1] at ew
    cases ew
    obtain ⟨g, a1, a2, a3⟩ := m_289 (N := N) (K := K) (m := 1) (x := 0) H M.2.1 O (by decide) (by decide) (by decide) (by omega)
    rw [i0] at a1
    have a1 : f_289 N h 217 0 1 0 = some g := a1
    rw [i0, if_neg (not_not_intro (show nI 0 = 0 from rfl)), if_pos (mi_217 H), a1, n0]
    refine ⟨g, rfl, a2, fun c hc => ?_⟩
    rw [a3 c hc, e2 c (by omega)]
    unfold wg_y
    rw [if_pos (z c hc)]
  · have zz : ∃ c, c < K 0 1 ∧ K 4 c ≠ 0 := Classical.byContradiction fun q => z (fun c hc => Classical.byContradiction fun k => q ⟨c, hc, k⟩)
    obtain ⟨c0, h0, k0⟩ := zz
    have nz : wg_in K ≠ 0 := fun q => by
      have := wg_in_b K c0 (K 0 1)
      have e : wg_in K = ma_fo (fun c a => if K 4 c = 0 then a else a ||| 2 ^ c) (K 0 1) 0 := rfl
      rw [← e, q, Nat.zero_testBit] at this
      exact absurd this.symm (by simp [h0, k0])
    have n1 : 1 ≤ wg_n K := by
      rcases Nat.eq_zero_or_pos (wg_n K) with q | q
      · have bb := b.2.2
        rw [q] at bb
        exact absurd (wg_E_0 (K := K) (K 0 1) 0 (fun _ => 0) c0 (Nat.zero_le _) (by omega) k0) bb
      · exact q
    rw [if_pos (fun q => nz ((lE0 (show wg_in K < 2 ^ 31 by omega)).mp q))]
    have lp : ∃ x, pb_wl (f_291_17s N 217 (nI (wg_in K))) N (0, 0, h) = some x ∧ (x.1 = nI (wg_n K) ∧ ma_fr [236] [] h x.2 ∧ ∀ c, c < K 0 1 → pb_I x.2 236 c = nI (w' c)) := by
      refine ma_lh (fun j s => s.1 = nI j ∧ ma_fr [236] [] h s.2.2 ∧ (j < wg_n K → s.2.1 = 0) ∧ (j = wg_n K → s.2.1 = 1 ∧ ∀ c, c < K 0 1 → pb_I s.2.2 236 c = nI (w' c))) _ (wg_n K) 0 N _ (by omega) (by omega) ⟨rfl, ma_fr_r _ _ _, fun _ => rfl, fun q => absurd q (by omega)⟩ ?_ ?_
      · rintro j ⟨y1, y2, g⟩ _ hj ⟨h1, fg, p, q⟩
        dsimp only at h1 fg p q
        subst h1
        have p := p hj
        subst p
        have Hg := ma_H_fr H fg
        have Mg : ma_M g K := ma_M_fr M fg (by decide) (by decide)
        have pw := m_291p (h := g) (N := N) (K := K) (m := j + 1) O (by omega) 0 hN
        obtain ⟨g1, a1, a2, a3⟩ := m_291i (N := N) (K := K) (m := j + 1) Hg Mg O (by omega) (by omega) hN
        have rE := wg_rE (K := K) (m := j + 1) (by omega)
        left
        refine ⟨(nI (j + 1), if wg_r K (j + 1) < (j + 1) ^ wg_I K (K 0 1) (K 0 1) then 1 else 0, g1), ?_, rfl, ma_fr_t fg a2, fun l => ?_, fun e => ?_⟩
        · simp only [f_291_17s, not_true_eq_false, if_false, nI_1, pw, Option.bind_some, a1]
        · dsimp only
          refine if_neg (fun z => ?_)
          obtain ⟨w2, e1, _⟩ := rE.1 z
          exact absurd (b.2.1 (j + 1) l) (by rw [e1]; simp)
        · dsimp only
          have lt : wg_r K (j + 1) < (j + 1) ^ wg_I K (K 0 1) (K 0 1) := by
            rcases Nat.lt_or_ge (wg_r K (j + 1)) ((j + 1) ^ wg_I K (K 0 1) (K 0 1)) with z | z
            · exact z
            · exact absurd (rE.2 z) (by rw [e]; exact b.2.2)
          obtain ⟨w2, e1, e2⟩ := rE.1 lt
          rw [e, ew] at e1
          cases e1
          refine ⟨if_pos lt, fun c hc => ?_⟩
          rw [a3 lt c hc, e2 c hc]
      · rintro ⟨y1, y2, g⟩ ⟨h1, fg, p, q⟩
        dsimp only at h1 fg p q
        subst h1
        have q := q rfl
        refine ⟨(nI (wg_n K), g), ?_, rfl, fg, q.2⟩
        simp only [f_291_17s, q.1, if_pos (show ¬ (1 : Int32) = 0 by decide)]
    obtain ⟨⟨x, g⟩, x1, x2, x3, x4⟩ := lp
    dsimp only at x2 x3 x4
    subst x2
    refine ⟨g, ?_, x3, x4⟩
    rw [x1]
    rfl
theorem wg_168 (y : Int32) {n : Nat} (hn : n ≤ 6) : f_168 y (-1) (nI n - 1) = some (if y = -1 ∨ ma_at y n = true then 1 else 0) := by
  have e1 : nI n - 1 = mI n := rfl
  have m1 : (-1 : Int32).toInt = -1 := by decide
  have m0 : (0 : Int32).toInt = 0 := by decide
  have mt : (mI n).toInt = (n : Int) - 1 := mI_toInt (by omega)
  have nt : (nI n).toInt = (n : Int) := nI_toInt (by omega)
  have a : ma_at y n = true ↔ 0 ≤ y.toInt ∧ y.toInt < n := by
    unfold ma_at
    rw [Bool.and_eq_true, decide_eq_true_iff, decide_eq_true_iff, Int32.le_iff_toInt_le, Int32.lt_iff_toInt_lt, m0, nt]
  have b : y = -1 ↔ y.toInt = -1 := by rw [← Int32.toInt_inj, m1]
  unfold f_168
  rw [e1]
  by_cases c1 : y < -1
  · have c2 := c1
    rw [Int32.lt_iff_toInt_lt, m1] at c2
    rw [if_pos c1, if_neg (fun q => by rw [a, b] at q; omega)]
  · have c2 := c1
    rw [Int32.lt_iff_toInt_lt, m1] at c2
    rw [if_neg c1]
    by_cases d1 : mI n < y
    · have d2 := d1
      rw [Int32.lt_iff_toInt_lt, mt] at d2
      rw [if_pos d1, if_neg (fun q => by rw [a, b] at q; omega)]
    · have d2 := d1
      rw [Int32.lt_iff_toInt_lt, mt] at d2
      rw [if_neg d1, if_pos (by rw [a, b]; omega)]
theorem q_wings (I : ma_INV h) (hN : 50000 < N) (x y : Int32) : ma_Q h (f_155 N h 0 x y) (fun g => f_292 N g 217 x y) := by
  have H := I.1
  have hq : ma_q h (pb_pI h 217 0 0) := ma_q_pI (ma_q_r h) (by decide) 0 0
  have hN3 : 3000 < N := by omega
  rcases ma_W I hN3 x with ⟨e1, e2⟩ | ⟨c, K, e1, hc, O, OT, V, e2⟩
  · exact ⟨-1, h, pb_pI h 217 0 0, by simp only [f_155, if_pos (mi_0 H), mr_0_0 H, Option.bind_some, if_pos (mi_1 H), e1], ma_q_r h, by simp only [f_292, if_pos (mi_217 H), e2 _ hq, Option.bind_some, if_true], hq⟩
  · have n6 := O.2.1
    by_cases qy : y = -1 ∨ ma_at y (K 0 1) = true
    · have b := wg_n_b O
      obtain ⟨w', ew⟩ : ∃ w', wg_E K (wg_n K) (K 0 1) 0 (fun _ => 0) = some w' := by
        cases q : wg_E K (wg_n K) (K 0 1) 0 (fun _ => 0) with
        | none => exact absurd q b.2.2
        | some w' => exact ⟨w', rfl⟩
      obtain ⟨g, a1, a2, a3⟩ := c_120 (N := N) H V O (by omega) ew hN3
      have Hg := ma_H_fr H a2
      have qg : ma_q h g := ma_q_fr a2 (by decide)
      obtain ⟨g2, e3, q3, Bb⟩ := e2 _ (ma_q_pI qg (by decide : ¬ ma_ps 217) 0 0)
      have z8 := m_288 (N := N) Bb.1 Bb.2.1 O hN3
      obtain ⟨g3, b1, b2, b3⟩ := m_291 (N := N) Bb.1 Bb.2.1 O ew hN
      have H3 := ma_H_fr Bb.1 b2
      have r := wg_168 y n6
      rw [if_pos qy] at r
      have qm : ma_q g g3 := ma_q_t (ma_q_pI (ma_q_r g) (by decide) 0 0) (ma_q_t q3 (ma_q_fr b2 (by decide)))
      -- the developers' answer by f_155_28
      have t1 : f_155 N h 0 x y = f_155_28 N h 0 y c := by
        unfold f_155
        rw [if_pos (mi_0 H), mr_0_0 H, Option.bind_some, if_pos (mi_1 H), e1, Option.bind_some]
        dsimp only
        by_cases z : y = -1
        · rw [if_pos z]
        · have za : ma_at y (K 0 1) = true := qy.resolve_left z
          rw [if_neg z, if_pos (wv_is H V.1), c_4 H V, Option.bind_some, za, if_pos rfl, if_pos (by decide)]
      have t2 : f_292 N g 217 x y = (if ¬ y = -1 then (if pb_is g3 217 11 then ((pb_R g3 217 43).bind fun q10 => (if pb_ar g3 q10 12 y then (some ((pb_I g3 q10 y.toNatClampNeg, g3))) else none)) else none) else (some ((nI (wg_n K), g3)))) := by
        unfold f_292
        rw [if_pos (mi_217 Hg), e3, Option.bind_some]
        dsimp only
        rw [if_neg (by decide), if_pos (mi_217 Bb.1), Bb.2.1.2.1, r, Option.bind_some, if_pos (by decide), z8, Option.bind_some, b1, Option.bind_some]
      by_cases z : y = -1
      · refine ⟨nI (wg_n K), g, g3, ?_, qg, ?_, qm⟩
        · rw [t1]
          unfold f_155_28
          rw [if_pos (mi_0 H), mr_0_7 H, Option.bind_some, if_pos (mi_198 H), a1, Option.bind_some]
          dsimp only
          rw [if_neg (not_not_intro z)]
        · show f_292 N g 217 x y = _
          rw [t2, if_neg (not_not_intro z)]
      · obtain ⟨k, hk, rfl⟩ := ma_at_ex (by omega) (qy.resolve_left z)
        have ck : (nI k).toNatClampNeg = k := nI_clamp (by omega)
        refine ⟨nI (w' k), g, g3, ?_, qg, ?_, qm⟩
        · rw [t1]
          unfold f_155_28
          rw [if_pos (mi_0 H), mr_0_7 H, Option.bind_some, if_pos (mi_198 H), a1, Option.bind_some]
          dsimp only
          rw [if_pos z, if_pos (mi_0 Hg), mr_0_7 Hg, Option.bind_some, if_pos (mi_198 Hg), mr_198_0 Hg, Option.bind_some, if_pos (mx_199 Hg (show k < 6 by omega)), ck, (a3 k hk).1]
        · show f_292 N g 217 x (nI k) = _
          rw [t2, if_pos z, if_pos (mi_217 H3), mr_217_43 H3, Option.bind_some, if_pos (mx_236 H3 (show k < 6 by omega)), ck, b3 k hk]
    · have nz : ¬ y = -1 := fun q => qy (.inl q)
      have na : ma_at y (K 0 1) = false := by
        cases q : ma_at y (K 0 1)
        · rfl
        · exact absurd (.inr q) qy
      obtain ⟨g, e3, q3, Bb⟩ := e2 _ hq
      have r := wg_168 y n6
      rw [if_neg qy] at r
      refine ⟨-1, h, g, ?_, ma_q_r h, ?_, ma_q_t hq q3⟩
      · unfold f_155
        rw [if_pos (mi_0 H), mr_0_0 H, Option.bind_some, if_pos (mi_1 H), e1, Option.bind_some]
        dsimp only
        rw [if_neg nz, if_pos (wv_is H V.1), c_4 H V, Option.bind_some, na, if_neg (show ¬ (false = true) by decide), if_neg (by decide)]
      · show f_292 N h 217 x y = _
        unfold f_292
        rw [if_pos (mi_217 H), e3, Option.bind_some]
        dsimp only
        rw [if_neg (by decide), if_pos (mi_217 Bb.1), Bb.2.1.2.1, r, Option.bind_some, if_neg (by decide)]
end
