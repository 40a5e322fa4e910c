/-! Fractions in least terms, powers. -/
def sp_eu : Nat → Nat × Nat → Nat × Nat
  | 0, p => p
  | n + 1, p => ((sp_eu n p).2, (sp_eu n p).1 % (sp_eu n p).2)
theorem sp_eu_s (p : Nat × Nat) : ∀ n, sp_eu n (p.2, p.1 % p.2) = sp_eu (n + 1) p
  | 0 => rfl
  | n + 1 => by
    show ((sp_eu n (p.2, p.1 % p.2)).2, (sp_eu n (p.2, p.1 % p.2)).1 % (sp_eu n (p.2, p.1 % p.2)).2) = _
    rw [sp_eu_s p n]; rfl
def sp_fb : Nat → Nat × Nat
  | 0 => (0, 1)
  | n + 1 => ((sp_fb n).2, (sp_fb n).1 + (sp_fb n).2)
theorem sp_fb_le : ∀ (n : Nat) (p : Nat × Nat), p.2 < p.1 → (∀ i, i < n → 0 < (sp_eu i p).2) → (sp_fb n).1 ≤ p.2 ∧ (sp_fb n).2 ≤ p.1
  | 0, p, h, _ => ⟨Nat.zero_le _, by show 1 ≤ p.1; omega⟩
  | n + 1, p, h, hp => by
    have h0 : 0 < p.2 := hp 0 (by omega)
    have ih := sp_fb_le n (p.2, p.1 % p.2) (Nat.mod_lt _ h0) (fun i hi => by rw [sp_eu_s]; exact hp (i + 1) (by omega))
    have h1 : p.2 + p.1 % p.2 ≤ p.1 := by
      have := Nat.div_add_mod p.1 p.2
      have h2 : 1 ≤ p.1 / p.2 := (Nat.le_div_iff_mul_le h0).mpr (by omega)
      have h3 : p.2 * 1 ≤ p.2 * (p.1 / p.2) := Nat.mul_le_mul_left _ h2
      omega
    show (sp_fb n).2 ≤ p.2 ∧ (sp_fb n).1 + (sp_fb n).2 ≤ p.1
    have a1 := ih.1
    have a2 := ih.2
    dsimp only at a1 a2
    omega
theorem sp_eu_le {M : Nat} (p : Nat × Nat) (h1 : p.1 ≤ M) (h2 : p.2 ≤ M) : ∀ n, (sp_eu n p).1 ≤ M ∧ (sp_eu n p).2 ≤ M
  | 0 => ⟨h1, h2⟩
  | n + 1 => ⟨(sp_eu_le p h1 h2 n).2, Nat.le_trans (Nat.mod_le _ _) (sp_eu_le p h1 h2 n).1⟩
theorem sp_eu_end {a b : Nat} (hb : b ≤ 2000000000000000000) : ∃ m, m < 95 ∧ (sp_eu m (a, b)).2 = 0 ∧ ∀ i, i < m → 0 < (sp_eu i (a, b)).2 := by
  have hx : ∃ i, i < 95 ∧ (sp_eu i (a, b)).2 = 0 := by
    by_cases q : b = 0
    · exact ⟨0, by decide, q⟩
    · refine Classical.byContradiction (fun hn => ?_)
      have hp : ∀ i, i < 95 → 0 < (sp_eu i (a, b)).2 := fun i hi => by
        rcases Nat.eq_zero_or_pos (sp_eu i (a, b)).2 with z | z
        · exact absurd ⟨i, hi, z⟩ hn
        · exact z
      have := (sp_fb_le 92 (b, a % b) (Nat.mod_lt _ (by omega)) (fun i hi => by rw [sp_eu_s (a, b) i]; exact hp (i + 1) (by omega))).2
      have e : (sp_fb 92).2 = 12200160415121876738 := by decide +kernel
      rw [e] at this
      dsimp only at this
      omega
  obtain ⟨k, hk, hl⟩ := pk_least (fun i => i < 95 ∧ (sp_eu i (a, b)).2 = 0) hx
  refine ⟨k, hk.1, hk.2, fun i hi => ?_⟩
  rcases Nat.eq_zero_or_pos (sp_eu i (a, b)).2 with z | z
  · exact absurd ⟨by omega, z⟩ (hl i hi)
  · exact z
theorem ma_gcd {a b : Nat} (h0 : 0 < a) (ha : a ≤ 2000000000000000000) (hb : b ≤ 2000000000000000000) : ∃ g, 0 < g ∧ g ≤ 2000000000000000000 ∧ (∀ (N : Nat) (x y : Int64) (t : Int32), 3000 < N → pb_wl (f_165_19s N x y t) N (lN a, lN b, 0) = some (lN g)) ∧ ∀ N, 3000 < N → pb_wl (f_232_6s N) N (lN a, lN b) = some (lN g) := by
  obtain ⟨m, h1, h2, h3⟩ := sp_eu_end (a := a) hb
  have hB := sp_eu_le (a, b) ha hb
  have hpos : 0 < (sp_eu m (a, b)).1 := by
    cases m with
    | zero => exact h0
    | succ k => exact h3 k (by omega)
  have ez : (0 : Int64) = lN 0 := rfl
  refine ⟨(sp_eu m (a, b)).1, hpos, (hB m).1, fun N x y t hN => ?_, fun N hN => ?_⟩
  · refine ma_wl (fun j => (lN (sp_eu j (a, b)).1, lN (sp_eu j (a, b)).2, nI j)) m N 0 (by omega) (fun j _ hj => ?_) ?_
    · have b1 := hB j
      have b2 := h3 j (by omega)
      have e1 : ¬ (100 : Int32) ≤ nI j := nI_ge (b := 100) (by omega) (by decide)
      have e2 : ¬ lN (sp_eu j (a, b)).2 = 0 := by rw [ez, pk_lEQ (by omega) (by omega)]; omega
      simp only [f_165_19s, if_neg e1, lg_cmp_eq, if_neg e2, if_pos e2, pk_lRem (show (sp_eu j (a, b)).1 < 2 ^ 63 by omega) b2 (show (sp_eu j (a, b)).2 < 2 ^ 63 by omega), nI_1]
      rfl
    · rw [Nat.zero_add]
      have e1 : ¬ (100 : Int32) ≤ nI m := nI_ge (b := 100) (by omega) (by decide)
      have e2 : lN (sp_eu m (a, b)).2 = 0 := by rw [h2]; rfl
      simp only [f_165_19s, if_neg e1, lg_cmp_eq, if_pos e2]
  · refine ma_wl (fun j => (lN (sp_eu j (a, b)).1, lN (sp_eu j (a, b)).2)) m N 0 (by omega) (fun j _ hj => ?_) ?_
    · have b1 := hB j
      have b2 := h3 j (by omega)
      have e2 : ¬ lN (sp_eu j (a, b)).2 = 0 := by rw [ez, pk_lEQ (by omega) (by omega)]; omega
      simp only [f_232_6s, lg_cmp_eq, if_neg e2, if_pos e2, pk_lRem (show (sp_eu j (a, b)).1 < 2 ^ 63 by omega) b2 (show (sp_eu j (a, b)).2 < 2 ^ 63 by omega)]
      rfl
    · rw [Nat.zero_add]
      have e2 : lN (sp_eu m (a, b)).2 = 0 := by rw [h2]; rfl
      simp only [f_232_6s, lg_cmp_eq, if_pos e2]
/-- both take a fraction alike -/
theorem ma_frac {a b N : Nat} (h0 : 0 < a) (ha : a ≤ 2000000000000000000) (hb : b ≤ 2000000000000000000) (t : Int32) (hN : 3000 < N) : ∃ r, f_165 N (lN b) (lN a) t = some r ∧ f_233 N (lN b) (lN a) t = some r := by
  obtain ⟨g, g0, g1, e1, e2⟩ := ma_gcd h0 ha hb
  have ez : (0 : Int64) = lN 0 := rfl
  have z1 : ¬ lN g = 0 := by rw [ez, pk_lEQ (by omega) (by omega)]; omega
  have z2 : (0 : Int64) < lN a := by rw [ez, pk_lLT (by omega) (by omega)]; omega
  have m1 : f_232 N (lN a) (lN b) = some (lN g) := by unfold f_232; rw [e2 N hN]; rfl
  by_cases q : t = 0
  · refine ⟨lN b / lN g, ?_, ?_⟩
    · simp only [f_165, lg_cmp_gt, if_pos z2, e1 N _ _ _ hN, Option.bind_some, f_165_54, lg_cmp_eq, if_pos z1, if_pos q]
    · simp only [f_233, if_pos q, f_233_10, m1, Option.bind_some, if_pos z1]
  · refine ⟨lN a / lN g, ?_, ?_⟩
    · simp only [f_165, lg_cmp_gt, if_pos z2, e1 N _ _ _ hN, Option.bind_some, f_165_54, lg_cmp_eq, if_pos z1, if_neg q]
    · simp only [f_233, if_neg q, f_233_10, m1, Option.bind_some, if_pos z1]
theorem c_165z (N : Nat) (x : Int64) (t : Int32) : f_165 N x 0 t = some (-1) := by
  unfold f_165
  rw [if_neg (by rw [lg_cmp_gt]; decide)]
theorem ma_pow (x : Nat) : ∀ n, ma_fo (fun _ a => a * x) n 1 = x ^ n
  | 0 => rfl
  | n + 1 => by
    show ma_fo (fun _ a => a * x) n 1 * x = _
    rw [ma_pow x n, Nat.pow_succ]
theorem c_166 {N x n : Nat} (hn : n < 3000) (hN : 3000 < N) : f_166 N (lN x) (nI n) = some (lN (x ^ n)) := by
  have hl : pb_wl (f_166_5s N (lN x) (nI n)) N (1, 0) = some (lN (x ^ n)) := by
    rw [← ma_pow]
    refine ma_lq (fun j a => (lN a, nI j)) (fun _ a => a * x) n (by omega) rfl (fun j a hj => ?_) ?_
    · simp only [f_166_5s, if_neg (nI_ge hj (by omega)), lN_mul, nI_1]
    · simp only [f_166_5s, if_pos (nI_le (Nat.le_refl n) (by omega))]
  simp only [f_166, hl, Option.bind_some]
theorem m_234 {N x n : Nat} (hn : n < 3000) (hN : 3000 < N) : f_234 N (lN x) (nI n) = some (lN (x ^ n)) := by
  have hl : pb_wl (f_234_5s N (lN x) (nI n)) N (1, 0) = some (lN (x ^ n)) := by
    rw [← ma_pow]
    refine ma_lq (fun j a => (lN a, nI j)) (fun _ a => a * x) n (by omega) rfl (fun j a hj => ?_) ?_
    · simp only [f_234_5s, if_neg (nI_ge hj (by omega)), lN_mul, nI_1]
    · simp only [f_234_5s, if_pos (nI_le (Nat.le_refl n) (by omega))]
  simp only [f_234, hl, Option.bind_some]
