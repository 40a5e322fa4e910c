/-! Queries by a log: odds, low. -/
def sp_pf (R : Nat × (Nat → Nat)) (a b : Nat) : Nat := ma_fo (fun k n => if sp_sm (R.2 k) b < sp_sm (R.2 k) a then n + 1 else n) R.1 0
theorem sp_pf_le (R : Nat × (Nat → Nat)) (a b : Nat) : sp_pf R a b ≤ R.1 := ma_fo_inv (g := fun k n => if sp_sm (R.2 k) b < sp_sm (R.2 k) a then n + 1 else n) (P := fun j a => a ≤ j) (a0 := 0) (Nat.le_refl _) R.1 (fun j a hj ha => by split <;> omega)
def ma_RR (R : Nat × (Nat → Nat)) : Prop := R.1 ≤ 729 ∧ ∀ i, R.2 i < 729
section
variable {h : pb_HP} {N : Nat} {R : Nat × (Nat → Nat)}
theorem c_67 (H : ma_H h) (mk : ∀ n, n < 729 → pb_I h 214 n = nI (sp_mk n)) (hR : ma_RR R) (ga : ma_ga h R) {a b : Nat} (ha : a < 64) (hb : b < 64) (hN : 3000 < N) : f_67 N h 212 (nI a) (nI b) = some (nI (sp_pf R a b)) := by
  have h7 := hR.1
  have hl : pb_wl (f_67_5s N h 212 (nI a) (nI b)) N (0, 0) = some (nI (sp_pf R a b)) := by
    refine ma_lq (fun j s => (nI s, nI j)) (fun k n => if sp_sm (R.2 k) b < sp_sm (R.2 k) a then n + 1 else n) R.1 (by omega) rfl (fun j s hj => ?_) ?_
    · have b1 := sp_sm_le (R.2 j) a
      have b2 := sp_sm_le (R.2 j) b
      have le : (nI (sp_sm (R.2 j) a) ≤ nI (sp_sm (R.2 j) b)) = (sp_sm (R.2 j) a ≤ sp_sm (R.2 j) b) := propext (nI_leI (by omega) (by omega))
      simp only [f_67_5s, if_pos (mi_212 H), ga.1, if_neg (nI_ge hj (show R.1 < 2 ^ 31 by omega)), mr_212_1 H, Option.bind_some, if_pos (mx_213 H (show j < 729 by omega)), nI_clamp (show j < 2 ^ 31 by omega), ga.2 j hj, c_62 H mk (hR.2 j) ha, c_62 H mk (hR.2 j) hb, le, nI_1]
      by_cases q : sp_sm (R.2 j) b < sp_sm (R.2 j) a
      · rw [if_neg (by omega), if_pos q]
      · rw [if_pos (by omega), if_neg q]
    · simp only [f_67_5s, if_pos (mi_212 H), ga.1, if_pos (nI_le (Nat.le_refl _) (show R.1 < 2 ^ 31 by omega))]
      rfl
  simp only [f_67, hl, Option.bind_some]
theorem m_252 (H : ma_H h) (hR : ma_RR R) (gb : ma_gb h R) {a b : Nat} (ha : a < 64) (hb : b < 64) (hN : 3000 < N) : f_252 N h 217 (nI a) (nI b) = some (nI (sp_pf R a b)) := by
  have h7 := hR.1
  have hl : pb_wl (f_252_5s N h 217 (nI a) (nI b)) N (0, 0) = some (nI (sp_pf R a b)) := by
    refine ma_lq (fun j s => (nI s, nI j)) (fun k n => if sp_sm (R.2 k) b < sp_sm (R.2 k) a then n + 1 else n) R.1 (by omega) rfl (fun j s hj => ?_) ?_
    · simp only [f_252_5s, if_pos (mi_217 H), gb.1, if_neg (nI_ge hj (show R.1 < 2 ^ 31 by omega)), mr_217_40 H, Option.bind_some, if_pos (mx_235 H (show j < 729 by omega)), nI_clamp (show j < 2 ^ 31 by omega), gb.2 j hj, m_249 (hR.2 j) ha hb hN, lH0, nI_1]
      by_cases q : sp_sm (R.2 j) b < sp_sm (R.2 j) a
      · simp only [q, if_true, i10, if_false]
      · simp only [q, if_true, if_false]
    · simp only [f_252_5s, if_pos (mi_217 H), gb.1, if_pos (nI_le (Nat.le_refl _) (show R.1 < 2 ^ 31 by omega))]
      rfl
  simp only [f_252, hl, Option.bind_some]
def sp_lo (R : Nat × (Nat → Nat)) (j : Nat) : Nat := ma_fo (fun k b => if b = 0 then sp_sm (R.2 k) 63 + 1 else min b (sp_sm (R.2 k) 63 + 1)) j 0
def sp_hi (R : Nat × (Nat → Nat)) (j : Nat) : Nat := ma_fo (fun k b => max b (sp_sm (R.2 k) 63 + 1)) j 0
theorem sp_lo_s (R : Nat × (Nat → Nat)) (j : Nat) : sp_lo R (j + 1) = if sp_lo R j = 0 then sp_sm (R.2 j) 63 + 1 else min (sp_lo R j) (sp_sm (R.2 j) 63 + 1) := ma_fo_s _ _ _
theorem sp_hi_s (R : Nat × (Nat → Nat)) (j : Nat) : sp_hi R (j + 1) = max (sp_hi R j) (sp_sm (R.2 j) 63 + 1) := ma_fo_s _ _ _
theorem sp_lo_le (R : Nat × (Nat → Nat)) : ∀ j, sp_lo R j ≤ 13 ∧ (0 < j → 0 < sp_lo R j)
  | 0 => ⟨by show (0 : Nat) ≤ 13; omega, fun z => absurd z (by decide)⟩
  | j + 1 => by
    have ih := sp_lo_le R j
    have b := sp_sm_le (R.2 j) 63
    rw [sp_lo_s]
    split <;> omega
theorem sp_hi_le (R : Nat × (Nat → Nat)) : ∀ j, sp_hi R j ≤ 13 ∧ (0 < j → 0 < sp_hi R j)
  | 0 => ⟨by show (0 : Nat) ≤ 13; omega, fun z => absurd z (by decide)⟩
  | j + 1 => by
    have ih := sp_hi_le R j
    have b := sp_sm_le (R.2 j) 63
    rw [sp_hi_s]
    omega
theorem c_68 (H : ma_H h) (mk : ∀ n, n < 729 → pb_I h 214 n = nI (sp_mk n)) (hR : ma_RR R) (ga : ma_ga h R) (hN : 3000 < N) : f_68 N h 212 = some (mI (sp_lo R R.1)) := by
  have h7 := hR.1
  have hl : pb_wl (f_68_4s N h 212) N (-1, 0) = some (mI (sp_lo R R.1)) := by
    refine ma_wl (fun j => (mI (sp_lo R j), nI j)) R.1 N 0 (by omega) (fun j _ hj => ?_) ?_
    · have b1 := sp_sm_le (R.2 j) 63
      have b2 := sp_lo_le R j
      have e62 : f_62 h 212 (nI (R.2 j)) 63 = some (nI (sp_sm (R.2 j) 63)) := c_62 H mk (hR.2 j) (by decide)
      have e1 : (mI (sp_lo R j) = -1) = (sp_lo R j = 0) := propext (mE _ (by omega))
      have e2 : (nI (sp_sm (R.2 j) 63) < mI (sp_lo R j)) = (sp_sm (R.2 j) 63 + 1 < sp_lo R j) := propext (nm_lt (by omega) (by omega))
      simp only [f_68_4s, if_pos (mi_212 H), ga.1, if_neg (nI_ge (show j < R.1 by omega) (show R.1 < 2 ^ 31 by omega)), mr_212_1 H, Option.bind_some, if_pos (mx_213 H (show j < 729 by omega)), nI_clamp (show j < 2 ^ 31 by omega), ga.2 j (by omega), e62, e1, e2, nI_1, sp_lo_s]
      by_cases q : sp_lo R j = 0
      · simp only [q, not_true_eq_false, if_false, if_true, mI_s]
      · simp only [q, not_false_eq_true, if_false, if_true]
        by_cases q2 : sp_sm (R.2 j) 63 + 1 < sp_lo R j
        · rw [if_pos q2, Nat.min_eq_right (by omega), mI_s]
        · rw [if_neg q2, Nat.min_eq_left (by omega)]
    · rw [Nat.zero_add]
      simp only [f_68_4s, if_pos (mi_212 H), ga.1, if_pos (nI_le (Nat.le_refl _) (show R.1 < 2 ^ 31 by omega))]
  simp only [f_68, hl, Option.bind_some]
theorem c_69 (H : ma_H h) (mk : ∀ n, n < 729 → pb_I h 214 n = nI (sp_mk n)) (hR : ma_RR R) (ga : ma_ga h R) (hN : 3000 < N) : f_69 N h 212 = some (mI (sp_hi R R.1)) := by
  have h7 := hR.1
  have hl : pb_wl (f_69_4s N h 212) N (-1, 0) = some (mI (sp_hi R R.1)) := by
    refine ma_wl (fun j => (mI (sp_hi R j), nI j)) R.1 N 0 (by omega) (fun j _ hj => ?_) ?_
    · have b1 := sp_sm_le (R.2 j) 63
      have b2 := sp_hi_le R j
      have e62 : f_62 h 212 (nI (R.2 j)) 63 = some (nI (sp_sm (R.2 j) 63)) := c_62 H mk (hR.2 j) (by decide)
      have e2 : (mI (sp_hi R j) < nI (sp_sm (R.2 j) 63)) = (sp_hi R j ≤ sp_sm (R.2 j) 63) := propext (mn_lt (by omega) (by omega))
      simp only [f_69_4s, if_pos (mi_212 H), ga.1, if_neg (nI_ge (show j < R.1 by omega) (show R.1 < 2 ^ 31 by omega)), mr_212_1 H, Option.bind_some, if_pos (mx_213 H (show j < 729 by omega)), nI_clamp (show j < 2 ^ 31 by omega), ga.2 j (by omega), e62, e2, nI_1, sp_hi_s]
      by_cases q2 : sp_hi R j ≤ sp_sm (R.2 j) 63
      · rw [if_pos q2, Nat.max_eq_right (by omega), mI_s]
      · rw [if_neg q2, Nat.max_eq_left (by omega)]
    · rw [Nat.zero_add]
      simp only [f_69_4s, if_pos (mi_212 H), ga.1, if_pos (nI_le (Nat.le_refl _) (show R.1 < 2 ^ 31 by omega))]
  simp only [f_69, hl, Option.bind_some]
theorem m_301l (H : ma_H h) (hR : ma_RR R) (gb : ma_gb h R) (h0 : 0 < R.1) (hN : 3000 < N) (t : Int32) : pb_wl (f_301_37s N h 217 t) N (nI (sp_sm (R.2 0) 63), 0) = some (if t = 0 then mI (sp_lo R R.1) else mI (sp_hi R R.1)) := by
  have h7 := hR.1
  have b0 := sp_sm_le (R.2 0) 63
  have l1 : sp_lo R 1 = sp_sm (R.2 0) 63 + 1 := by rw [sp_lo_s]; rfl
  have l2 : sp_hi R 1 = sp_sm (R.2 0) 63 + 1 := by rw [sp_hi_s]; show max 0 _ = _; omega
  have st : ∀ j, j < R.1 → ∀ x, f_301_37s N h 217 t (nI x, nI j) = (if t = 0 then (f_171 (nI x) (nI (sp_sm (R.2 j) 63))).bind (fun r => some (.inl (r, nI (j + 1)))) else (f_170 (nI x) (nI (sp_sm (R.2 j) 63))).bind (fun r => some (.inl (r, nI (j + 1))))) := by
    intro j hj x
    have e48 : f_248 N (nI (R.2 j)) 63 = some (nI (sp_sm (R.2 j) 63)) := m_248 (hR.2 j) (by decide) hN
    simp only [f_301_37s, if_pos (mi_217 H), gb.1, if_neg (nI_ge hj (show R.1 < 2 ^ 31 by omega)), mr_217_40 H, Option.bind_some, if_pos (mx_235 H (show j < 729 by omega)), nI_clamp (show j < 2 ^ 31 by omega), gb.2 j hj, e48, nI_1]
  have fin : ∀ x, f_301_37s N h 217 t (x, nI R.1) = some (.inr x) := fun x => by
    simp only [f_301_37s, if_pos (mi_217 H), gb.1, if_pos (nI_le (Nat.le_refl _) (show R.1 < 2 ^ 31 by omega))]
  by_cases q : t = 0
  · rw [if_pos q]
    have e0 : (nI (sp_sm (R.2 0) 63), (0 : Int32)) = (fun j => (nI ((if j = 0 then sp_sm (R.2 0) 63 + 1 else sp_lo R j) - 1), nI j)) 0 := rfl
    rw [e0]
    refine ma_wl (fun j => (nI ((if j = 0 then sp_sm (R.2 0) 63 + 1 else sp_lo R j) - 1), nI j)) R.1 N 0 (by omega) (fun j _ hj => ?_) ?_
    · have b1 := sp_sm_le (R.2 j) 63
      have b2 := sp_lo_le R j
      rw [st j (by omega), if_pos q, if_neg (by omega : ¬ j + 1 = 0)]
      by_cases z : j = 0
      · subst z
        rw [if_pos rfl, m_171 (by omega) (by omega), l1]
        simp only [Option.bind_some, Nat.add_sub_cancel, Nat.min_self]
      · have := b2.2 (by omega)
        rw [if_neg z, m_171 (by omega) (by omega), sp_lo_s, if_neg (by omega), Option.bind_some]
        congr 4
        omega
    · rw [Nat.zero_add]
      have b2 := (sp_lo_le R R.1).2 h0
      rw [fin, if_neg (by omega)]
      obtain ⟨z, hz⟩ : ∃ z, sp_lo R R.1 = z + 1 := ⟨sp_lo R R.1 - 1, by omega⟩
      rw [hz, mI_s]; rfl
  · rw [if_neg q]
    have e0 : (nI (sp_sm (R.2 0) 63), (0 : Int32)) = (fun j => (nI ((if j = 0 then sp_sm (R.2 0) 63 + 1 else sp_hi R j) - 1), nI j)) 0 := rfl
    rw [e0]
    refine ma_wl (fun j => (nI ((if j = 0 then sp_sm (R.2 0) 63 + 1 else sp_hi R j) - 1), nI j)) R.1 N 0 (by omega) (fun j _ hj => ?_) ?_
    · have b1 := sp_sm_le (R.2 j) 63
      have b2 := sp_hi_le R j
      rw [st j (by omega), if_neg q, if_neg (by omega : ¬ j + 1 = 0)]
      by_cases z : j = 0
      · subst z
        rw [if_pos rfl, m_170 (by omega) (by omega), l2]
        simp only [Option.bind_some, Nat.add_sub_cancel, Nat.max_self]
      · have := b2.2 (by omega)
        rw [if_neg z, m_170 (by omega) (by omega), sp_hi_s, Option.bind_some]
        congr 4
        omega
    · rw [Nat.zero_add]
      have b2 := (sp_hi_le R R.1).2 h0
      rw [fin, if_neg (by omega)]
      obtain ⟨z, hz⟩ : ∃ z, sp_hi R R.1 = z + 1 := ⟨sp_hi R R.1 - 1, by omega⟩
      rw [hz, mI_s]; rfl
/-- a log by its number: gathered on both sides -/
theorem ma_G (I : ma_INV h) (hN : 3000 < N) (x : Int32) : (f_107 h 1 x = some none ∧ ∀ g, ma_q h g → ∃ g2, f_251 N (pb_pI g 217 0 0) 217 x = some (0, g2) ∧ ma_q g g2) ∨ ∃ l R g1, f_107 h 1 x = some (some l) ∧ ma_RR R ∧ f_60 N h 212 l = some g1 ∧ ma_q h g1 ∧ ma_H g1 ∧ (∀ n, n < 729 → pb_I g1 214 n = nI (sp_mk n)) ∧ ma_ga g1 R ∧ ∀ g, ma_q h g → ∃ g2, f_251 N (pb_pI g 217 0 0) 217 x = some (1, g2) ∧ ma_q g g2 ∧ ma_H g2 ∧ ma_gb g2 R := by
  have H := I.1
  have mk := I.2.2.2
  rcases ma_Wl I x with ⟨y1, y2⟩ | ⟨k, Y, hk, rfl, y1, L, hY, hg, y2⟩
  · refine .inl ⟨y1, fun g qg => ⟨pb_pI (pb_pI g 217 0 0) 217 39 x, ?_, ma_q_pI (ma_q_pI (ma_q_r g) (by decide) 0 0) (by decide) _ _⟩⟩
    have Hg := ma_H_q H qg
    have hi : pb_is (pb_pI g 217 0 0) 217 11 := mi_217 Hg
    simp only [f_251, if_pos hi, y2 _ (ma_q_pI qg (by decide : ¬ ma_ps 217) 0 0), Option.bind_some, not_true_eq_false, if_false]
  · obtain ⟨D, hD⟩ := ma_fds hg
    have hle := sp_gf_le D Y.1 729
    obtain ⟨g1, a1, a2, a3⟩ := c_60 (N := N) H mk (show 29 + 5 * k ≤ 40 by omega) L hY hD hN
    refine .inr ⟨29 + 5 * k, sp_gf D Y.1 729, g1, y1, ⟨hle.1, fun i => by have := hle.2 i; omega⟩, a1, ma_q_fr a2 (by decide), ma_H_fr H a2, fun n hn => by rw [ma_fr_o a2 (by decide) (by decide)]; exact mk n hn, a3, fun g qg => ?_⟩
    have Hg := ma_H_q H qg
    have q1 : ma_q h (pb_pI g 217 0 0) := ma_q_pI qg (by decide) 0 0
    have hi : pb_is (pb_pI g 217 0 0) 217 11 := mi_217 Hg
    obtain ⟨e3, Ly⟩ := y2 _ q1
    have H2 : ma_H (pb_pI (pb_pI g 217 0 0) 217 39 (nI k)) := Hg
    have hi2 : pb_is (pb_pI (pb_pI g 217 0 0) 217 39 (nI k)) 217 11 := mi_217 Hg
    have Ly2 := ma_Ly_e (g := pb_pI (pb_pI g 217 0 0) 217 39 (nI k)) Ly (by rw [ma_I_pI, if_neg (by decide)])
    obtain ⟨g2, b1, b2, b3⟩ := m_251l (N := N) H2 hk rfl Ly2 hY hD hN
    refine ⟨g2, ?_, ma_q_t (ma_q_pI (ma_q_pI (ma_q_r g) (by decide) 0 0) (by decide) _ _) ⟨b2.1, b2.2.1, fun o ho => funext fun k => b2.2.2 o k (fun z => by revert z; simp; omega) (fun z => by revert z; simp; omega)⟩, ma_H_fr H2 b2, b3⟩
    simp only [f_251, if_pos hi, e3, Option.bind_some, i10, not_false_eq_true, if_true, if_pos hi2, b1]
theorem q_low (I : ma_INV h) (hN : 3000 < N) (x t : Int32) : ma_Q h (f_160 N h 0 x t) (fun g => f_301 N g 217 x t) := by
  have H := I.1
  rcases ma_G I hN x with ⟨e1, e2⟩ | ⟨l, R, g1, e1, hR, a1, qg, H1, mk, ga, e2⟩
  · obtain ⟨g2, m1, m2⟩ := e2 _ (ma_q_r h)
    exact ⟨-1, h, g2, by simp only [f_160, if_pos (mi_0 H), mr_0_0 H, Option.bind_some, if_pos (mi_1 H), e1], ma_q_r h, by simp only [f_301, if_pos (mi_217 H), m1, Option.bind_some, if_true], m2⟩
  · obtain ⟨g2, m1, m2, m3, gb⟩ := e2 _ qg
    have h7 := hR.1
    refine ⟨if t = 0 then mI (sp_lo R R.1) else mI (sp_hi R R.1), g1, g2, ?_, qg, ?_, m2⟩
    · simp only [f_160, if_pos (mi_0 H), mr_0_0 H, Option.bind_some, if_pos (mi_1 H), e1, mr_0_9 H, if_pos (mi_212 H), a1, if_pos (mi_0 H1), mr_0_9 H1, if_pos (mi_212 H1), c_68 H1 mk hR ga hN, c_69 H1 mk hR ga hN]
      split <;> rfl
    · by_cases q0 : R.1 = 0
      · have e41 : (pb_I g2 217 41 = 0) = True := eq_true (by rw [gb.1, q0]; rfl)
        simp only [f_301, if_pos (mi_217 H1), m1, Option.bind_some, i10, if_false, if_pos (mi_217 m3), e41, not_true_eq_false]
        rw [q0]
        split <;> rfl
      · have e41 : (pb_I g2 217 41 = 0) = False := eq_false (by rw [gb.1]; exact nI_ne0 (by omega) (by omega))
        have x0 : pb_ar g2 235 12 0 := mx_235 m3 (j := 0) (by decide)
        have z0 : (0 : Int32).toNatClampNeg = 0 := by decide
        have e48 : f_248 N (nI (R.2 0)) 63 = some (nI (sp_sm (R.2 0) 63)) := m_248 (hR.2 0) (by decide) hN
        simp only [f_301, if_pos (mi_217 H1), m1, Option.bind_some, i10, if_false, if_pos (mi_217 m3), e41, not_false_eq_true, if_true, mr_217_40 m3, if_pos x0, z0, gb.2 0 (by omega), e48, m_301l m3 hR gb (by omega) hN t]
theorem q_odds (I : ma_INV h) (hN : 3000 < N) (x y z t : Int32) : ma_Q h (f_159 N h 0 x y z t) (fun g => f_300 N g 217 x y z t) := by
  have H := I.1
  have hq : ma_q h (pb_pI h 217 0 0) := ma_q_pI (ma_q_r h) (by decide) 0 0
  have zy := m_168z y (n := 63) (y := 63) rfl (by decide)
  have zz := m_168z z (n := 63) (y := 63) rfl (by decide)
  have nope : ∀ w : Int32, ma_at w (63 + 1) = false → w < 0 ∨ (63 : Int32) < w := fun w hw => by
    rcases ma_at_no hw with q | q
    · exact .inl q
    · right
      rw [Int32.le_iff_toInt_le] at q
      rw [Int32.lt_iff_toInt_lt]
      have k1 : (nI (63 + 1)).toInt = 64 := by decide
      have k2 : (63 : Int32).toInt = 63 := by decide
      omega
  have no : ∀ l, f_107 h 1 x = some l → (ma_at y (63 + 1) = false ∨ ma_at z (63 + 1) = false) → f_159 N h 0 x y z t = some (-1, h) := by
    intro l e1 hn
    cases l with
    | none => simp only [f_159, if_pos (mi_0 H), mr_0_0 H, Option.bind_some, if_pos (mi_1 H), e1]
    | some l =>
      simp only [f_159, if_pos (mi_0 H), mr_0_0 H, Option.bind_some, if_pos (mi_1 H), e1]
      by_cases y1 : y < 0
      · rw [if_pos y1]
      · rw [if_neg y1]
        by_cases y2 : (63 : Int32) < y
        · rw [if_pos y2]
        · rw [if_neg y2]
          by_cases z1 : z < 0
          · rw [if_pos z1]
          · rw [if_neg z1, if_neg]
            intro z2
            rcases hn with q | q
            · rcases nope y q with w | w
              · exact y1 w
              · exact y2 w
            · rcases nope z q with w | w
              · exact z1 w
              · exact absurd w (by rw [Int32.not_lt]; exact z2)
  have ex : ∃ l, f_107 h 1 x = some l := by
    rcases ma_G I hN x with ⟨e1, _⟩ | ⟨l, R, g1, e1, _⟩
    · exact ⟨_, e1⟩
    · exact ⟨_, e1⟩
  obtain ⟨l0, hl0⟩ := ex
  cases qy : ma_at y (63 + 1)
  · rw [qy] at zy
    exact ⟨-1, h, pb_pI h 217 0 0, no l0 hl0 (.inl qy), ma_q_r h, by simp only [f_300, if_pos (mi_217 H), zy, Option.bind_some, i10, i01, true_or, or_true, false_or, or_false, true_and, and_true, and_false, false_and, not_true_eq_false, not_false_eq_true, if_true, if_false, eq_self, ma_b0, Bool.false_eq_true, Bool.true_eq_false, reduceCtorEq], hq⟩
  · rw [qy] at zy
    cases qz : ma_at z (63 + 1)
    · rw [qz] at zz
      exact ⟨-1, h, pb_pI h 217 0 0, no l0 hl0 (.inr qz), ma_q_r h, by simp only [f_300, if_pos (mi_217 H), zy, zz, Option.bind_some, i10, i01, true_or, or_true, false_or, or_false, true_and, and_true, and_false, false_and, not_true_eq_false, not_false_eq_true, if_true, if_false, eq_self, ma_b0, Bool.false_eq_true, Bool.true_eq_false, reduceCtorEq], hq⟩
    · rw [qz] at zz
      obtain ⟨a, ha, rfl⟩ := ma_at_ex (by decide) qy
      obtain ⟨b, hb, rfl⟩ := ma_at_ex (by decide) qz
      have y1 : ¬ nI a < 0 := nI_pos (by omega)
      have y2 : ¬ (63 : Int32) < nI a := (not_congr (lB63 (by omega))).mpr (by omega)
      have z1 : ¬ nI b < 0 := nI_pos (by omega)
      have z2 : nI b ≤ 63 := (lC63 (by omega)).mpr (by omega)
      rcases ma_G I hN x with ⟨e1, e2⟩ | ⟨l, R, g1, e1, hR, a1, qg, H1, mk, ga, e2⟩
      · obtain ⟨g2, m1, m2⟩ := e2 _ (ma_q_r h)
        exact ⟨-1, h, g2, by simp only [f_159, if_pos (mi_0 H), mr_0_0 H, Option.bind_some, if_pos (mi_1 H), e1], ma_q_r h, by simp only [f_300, if_pos (mi_217 H), zy, zz, m1, Option.bind_some, i10, i01, true_or, or_true, false_or, or_false, true_and, and_true, and_false, false_and, not_true_eq_false, not_false_eq_true, if_true, if_false, eq_self, ma_b0, Bool.false_eq_true, Bool.true_eq_false, reduceCtorEq], m2⟩
      · obtain ⟨g2, m1, m2, m3, gb⟩ := e2 _ qg
        have h7 := hR.1
        have p := sp_pf_le R a b
        have l1 : Int32.toInt64 (nI (sp_pf R a b)) = lN (sp_pf R a b) := nI_l (by omega)
        have l2 : Int32.toInt64 (nI R.1) = lN R.1 := nI_l (by omega)
        by_cases q0 : R.1 = 0
        · have e41 : (pb_I g2 217 41 = 0) = True := eq_true (by rw [gb.1, q0]; rfl)
          have e0 : f_165 N (lN (sp_pf R a b)) (lN R.1) t = some (-1) := by rw [q0]; exact c_165z N _ t
          exact ⟨-1, g1, g2, by simp only [f_159, if_pos (mi_0 H), mr_0_0 H, Option.bind_some, if_pos (mi_1 H), e1, if_neg y1, if_neg y2, if_neg z1, if_pos z2, mr_0_9 H, if_pos (mi_212 H), a1, if_pos (mi_0 H1), mr_0_9 H1, if_pos (mi_212 H1), c_67 H1 mk hR ga ha hb hN, ga.1, l1, l2, e0], qg, by simp only [f_300, if_pos (mi_217 H1), zy, zz, m1, Option.bind_some, if_pos (mi_217 m3), e41, not_true_eq_false, i10, i01, true_or, or_true, false_or, or_false, true_and, and_true, and_false, false_and, not_true_eq_false, not_false_eq_true, if_true, if_false, eq_self, ma_b0, Bool.false_eq_true, Bool.true_eq_false, reduceCtorEq], m2⟩
        · have e41 : (pb_I g2 217 41 = 0) = False := eq_false (by rw [gb.1]; exact nI_ne0 (by omega) (by omega))
          obtain ⟨r, r1, r2⟩ := ma_frac (a := R.1) (b := sp_pf R a b) (N := N) (by omega) (by omega) (by omega) t hN
          exact ⟨r, g1, g2, by simp only [f_159, if_pos (mi_0 H), mr_0_0 H, Option.bind_some, if_pos (mi_1 H), e1, if_neg y1, if_neg y2, if_neg z1, if_pos z2, mr_0_9 H, if_pos (mi_212 H), a1, if_pos (mi_0 H1), mr_0_9 H1, if_pos (mi_212 H1), c_67 H1 mk hR ga ha hb hN, ga.1, l1, l2, r1], qg, by simp only [f_300, if_pos (mi_217 H1), zy, zz, m1, Option.bind_some, if_pos (mi_217 m3), e41, (show (nI R.1 = 0) = False from eq_false (nI_ne0 (by omega) (by omega))), not_false_eq_true, m_252 m3 hR gb ha hb hN, gb.1, l1, l2, r2, i10, i01, true_or, or_true, false_or, or_false, true_and, and_true, and_false, false_and, not_true_eq_false, not_false_eq_true, if_true, if_false, eq_self, ma_b0, Bool.false_eq_true, Bool.true_eq_false, reduceCtorEq], m2⟩
end
