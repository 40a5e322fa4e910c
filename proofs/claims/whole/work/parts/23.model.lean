/-! The model's own: who is there, votes, picks, the county at hand. -/
def ma_at (x : Int32) (n : Nat) : Bool := decide (0 ≤ x) && decide (x < nI n)
theorem ma_at_nI {j n : Nat} (hj : j < 2 ^ 31) (hn : n < 2 ^ 31) : ma_at (nI j) n = decide (j < n) := by
  unfold ma_at
  have e1 : (0 : Int32) ≤ nI j := nI_pos' hj
  simp only [e1, decide_true, Bool.true_and, nI_ltI hj hn]
theorem ma_at_ex {x : Int32} {n : Nat} (hn : n < 2 ^ 31) (h : ma_at x n = true) : ∃ j, j < n ∧ x = nI j := by
  unfold ma_at at h
  simp only [Bool.and_eq_true, decide_eq_true_eq] at h
  rcases pk_ix x hn with q | q | q
  · exact absurd q (by rw [Int32.not_lt]; exact h.1)
  · exact absurd q (by rw [Int32.not_le]; exact h.2)
  · exact q
theorem ma_at_no {x : Int32} {n : Nat} (h : ma_at x n = false) : x < 0 ∨ nI n ≤ x := by
  unfold ma_at at h
  by_cases q : (0 : Int32) ≤ x
  · right
    simp only [q, decide_true, Bool.true_and, decide_eq_false_iff_not] at h
    rw [← Int32.not_lt]; exact h
  · left; rw [← Int32.not_le]; exact q
theorem ma_mlt {x : Int32} {n : Nat} (hn : n < 2 ^ 31) : nI n - 1 < x ↔ nI n ≤ x := by
  have := mI_toInt hn
  unfold mI at this
  rw [Int32.lt_iff_toInt_lt, Int32.le_iff_toInt_le, this, nI_toInt hn]; omega
theorem m_168 (x : Int32) {n : Nat} (hn : n < 2 ^ 31) : f_168 x 0 (nI n - 1) = some (if ma_at x n then 1 else 0) := by
  unfold f_168 ma_at
  simp only [ma_mlt hn]
  by_cases h1 : x < 0
  · have : ¬ (0 : Int32) ≤ x := by rw [Int32.not_le]; exact h1
    simp [h1, this]
  · have h2 : (0 : Int32) ≤ x := by rw [← Int32.not_lt]; exact h1
    by_cases h3 : nI n ≤ x
    · have : ¬ x < nI n := by rw [Int32.not_lt]; exact h3
      simp [h1, h2, h3, this]
    · have : x < nI n := by rw [← Int32.not_le]; exact h3
      simp [h1, h2, h3, this]
theorem ma_b01 (b : Bool) : ((if b then (1 : Int32) else 0) = 0 ∨ (if b then (1 : Int32) else 0) = 1) = True := by cases b <;> simp
theorem m_170 {a b : Nat} (ha : a < 2 ^ 31) (hb : b < 2 ^ 31) : f_170 (nI a) (nI b) = some (nI (max a b)) := by
  unfold f_170
  simp only [nI_leI ha hb]
  split
  · rw [Nat.max_eq_right (by assumption)]
  · rw [Nat.max_eq_left (by omega)]
theorem m_171 {a b : Nat} (ha : a < 2 ^ 31) (hb : b < 2 ^ 31) : f_171 (nI a) (nI b) = some (nI (min a b)) := by
  unfold f_171
  simp only [nI_leI hb ha]
  split
  · rw [Nat.min_eq_right (by assumption)]
  · rw [Nat.min_eq_left (by omega)]
def sp_on (s : Nat) : Nat := ma_fo (fun k a => if s.testBit k then a + 1 else a) 6 0
theorem sp_on_le (s : Nat) : sp_on s ≤ 6 := ma_fo_inv (g := fun k a => if s.testBit k then a + 1 else a) (P := fun j a => a ≤ j) (a0 := 0) (Nat.le_refl _) 6 (fun j a _ ha => by split <;> omega)
theorem m_172 {N s : Nat} (hs : s < 2 ^ 31) (hN : 3000 < N) : f_172 N (nI s) = some (nI (sp_on s)) := by
  have hl : pb_wl (f_172_4s N (nI s)) N (0, 0) = some (nI (sp_on s)) := by
    refine ma_lq (fun j a => (nI a, nI j)) _ 6 (by omega) rfl (fun j a hj => ?_) rfl
    have e1 : ¬ (6 : Int32) ≤ nI j := nI_ge (b := 6) hj (by decide)
    simp only [f_172_4s, if_neg e1, ma_has hs (show j < 32 by omega), Option.bind_some, ma_b0, nI_1]
    cases s.testBit j <;> simp
  unfold f_172
  rw [hl]
  rfl
theorem m_305 {s : Nat} (hs : s < 64) : f_305 (nI s) = some (nI (sp_on s)) := by
  have : ∀ s : Fin 64, f_305 (nI s.val) = some (nI (sp_on s.val)) := by decide +kernel
  exact this ⟨s, hs⟩
section
variable {h : pb_HP} {K : ma_K} {N : Nat}
theorem m_175 (H : ma_H h) {s n : Nat} (hs : s < 12) (hn : n < 2 ^ 31) (e : pb_I h 222 s = nI n) (x : Int32) : f_175 h 217 (nI s) x = some (if ma_at x n then 1 else 0) := by
  simp only [f_175, ji_217 H, mr_217_5 H, Option.bind_some, jx_222 H hs, nI_clamp (show s < 2 ^ 31 by omega), e, m_168 x hn, ma_b01, if_true]
theorem m_200 (H : ma_H h) (hM : ma_M h K) (O : ma_OK K) (x : Int32) : f_200 h 217 x = some (if ma_at x (K 0 0) then 1 else 0) := by
  have := O.1
  simp only [f_200, ji_217 H, hM.1, m_168 x (show K 0 0 < 2 ^ 31 by omega), Option.bind_some, ma_b01, if_true]
theorem m_201 (H : ma_H h) (hM : ma_M h K) (O : ma_OK K) (x : Int32) : f_201 h 217 x = some (if ma_at x (K 0 1) then 1 else 0) := by
  have := O.2.1
  simp only [f_201, ji_217 H, hM.2.1, m_168 x (show K 0 1 < 2 ^ 31 by omega), Option.bind_some, ma_b01, if_true]
theorem m_202 (H : ma_H h) (hM : ma_M h K) (O : ma_OK K) {c : Nat} (hc : c < 6) : f_202 h 217 (nI c) = some (if sp_vt K c then 1 else 0) := by
  have b3 := (O.2.2.1 c).2.2.1
  have b4 := (O.2.2.1 c).2.2.2.1
  simp only [f_202, ji_217 H, mr_217_31 H, mr_217_32 H, Option.bind_some, jx_229 H hc, jx_230 H hc, nI_clamp (show c < 2 ^ 31 by omega), hM.2.2.2.1 c hc, hM.2.2.2.2.1 c hc]
  have e1 : ((12 : Int32) < nI (K 3 c)) = (12 < K 3 c) := propext (nI_ltI (a := 12) (by decide) (by omega))
  have e2 : (nI (K 4 c) ≤ (0 : Int32)) = (K 4 c ≤ 0) := propext (nI_leI (b := 0) (by omega) (by decide))
  simp only [e1, e2, sp_vt]
  by_cases q1 : 12 < K 3 c
  · simp [q1, Nat.not_le.mpr q1]
  · by_cases q2 : K 4 c ≤ 0
    · have : K 4 c = 0 := by omega
      simp [q1, this]
    · simp [q1, q2, Nat.not_lt.mp q1, Nat.not_le.mp q2]
theorem ma_or_lt {a c : Nat} (ha : a < 64) (hc : c < 6) : a ||| 2 ^ c < 64 := by
  refine Nat.or_lt_two_pow (n := 6) ha ?_
  exact Nat.pow_lt_pow_right (by decide) hc
theorem sp_vs_lt {K : ma_K} (O : ma_OK K) : sp_vs K < 64 := ma_fo_inv (g := fun c a => if sp_vt K c then a ||| 2 ^ c else a) (P := fun _ a => a < 64) (a0 := 0) (by decide) (K 0 1) (fun j a hj ha => by
  have := O.2.1
  split
  · exact ma_or_lt ha (by omega)
  · exact ha)
theorem m_203 (H : ma_H h) (hM : ma_M h K) (O : ma_OK K) (hN : 3000 < N) : f_203 N h 217 = some (nI (sp_vs K)) := by
  have hch := O.2.1
  have hl : pb_wl (f_203_4s N h 217) N (0, 0) = some (nI (sp_vs K)) := by
    refine ma_lq (fun j a => (nI a, nI j)) (fun c a => if sp_vt K c then a ||| 2 ^ c else a) (K 0 1) (by omega) rfl (fun j a hj => ?_) ?_
    · have e1 : ¬ nI (K 0 1) ≤ nI j := nI_ge hj (by omega)
      have e2 : nI a ||| 0 = nI a := (fa_or a 0).trans (by rw [Nat.or_zero])
      simp only [f_203_4s, ji_217 H, hM.2.1, if_neg e1, m_202 H hM O (show j < 6 by omega), Option.bind_some, ma_b0, e2, ma_shl (show j < 31 by omega), fa_or, nI_1]
      cases sp_vt K j <;> simp
    · have e1 : nI (K 0 1) ≤ nI (K 0 1) := nI_le (Nat.le_refl _) (by omega)
      simp only [f_203_4s, ji_217 H, hM.2.1, if_pos e1]
      rfl
  unfold f_203
  rw [hl]
  rfl
theorem m_207 (H : ma_H h) (hM : ma_M h K) (O : ma_OK K) {c : Nat} (hc : c < 6) (hN : 3000 < N) : f_207 N h 217 (nI c) = some (nI (sp_pt K c 63)) := by
  have := m_206 H hM O (s := 63) hc (by decide) hN
  simp only [f_207, ji_217 H]
  rw [show (63 : Int32) = nI 63 from rfl, this]
  rfl
/-- to whom the children point, as the row tells -/
def ma_to (h : pb_HP) (to : Nat → Nat) : Prop := ∀ c, c < 6 → pb_I h 233 c = nI (to c)
theorem ma_M_fr {L : List Nat} {F : List (Nat × Nat)} {h g : pb_HP} (hM : ma_M h K) (f : ma_fr L F h g) (h1 : ∀ o, o ∈ [217, 228, 229, 230, 231, 232] → o ∉ L) (h2 : ∀ q, q ∈ F → q.1 ∉ [228, 229, 230, 231, 232] ∧ q ∉ [(217, 24), (217, 25)])   : ma_M g K := by
  have e1 : ∀ o, o ∈ [228, 229, 230, 231, 232] → pb_I g o = pb_I h o := fun o ho => ma_fr_o f (h1 o (by revert ho; simp; omega)) (fun q => by
    obtain ⟨p, hp, rfl⟩ := List.mem_map.mp q
    exact (h2 p hp).1 ho)
  have e2 : ∀ k, k = 24 ∨ k = 25 → pb_I g 217 k = pb_I h 217 k := fun k hk => f.2.2 217 k (h1 217 (by simp)) (fun q => (h2 _ q).2 (by simp; exact hk))
  unfold ma_M
  rw [e1 228 (by simp), e1 229 (by simp), e1 230 (by simp), e1 231 (by simp), e1 232 (by simp), e2 24 (.inl rfl), e2 25 (.inr rfl)]
  exact hM
theorem m_208 (H : ma_H h) (hM : ma_M h K) (O : ma_OK K) (hN : 3000 < N) : ∃ h2, f_208 N h 217 = some h2 ∧ ma_fr [233] [] h h2 ∧ ma_to h2 (sp_to K) := by
  have hch := O.2.1
  have hl : ∃ e, pb_wl (f_208_2s N 217) N (0, h) = some e ∧ (ma_fr [233] [] h e ∧ ma_to e (sp_to K)) := by
    refine ma_lh (fun j s => s.1 = nI j ∧ ma_fr [233] [] h s.2 ∧ ∀ c, c < j → pb_I s.2 233 c = nI (sp_to K c)) _ 6 0 N (0, h) (by omega) (by omega) ⟨rfl, ma_fr_r _ _ _, fun c hc => absurd hc (Nat.not_lt_zero c)⟩ ?_ ?_
    · rintro j ⟨i, g⟩ _ hj ⟨hi, hf, ht⟩
      dsimp only at hi hf ht
      subst hi
      left
      have H2 := ma_H_fr H hf
      have hM2 : ma_M g K := ma_M_fr hM hf (by decide) (by decide)
      have e1 : ¬ (6 : Int32) ≤ nI j := nI_ge (b := 6) hj (by decide)
      refine ⟨(nI (j + 1), pb_pI g 233 j (nI (sp_to K j))), ?_, rfl, ma_fr_pI hf (.inl (by decide)) _, ?_⟩
      · simp only [f_208_2s, if_neg e1, ji_217 H2, mr_217_35 H2, Option.bind_some, hM2.2.1, f_208_31, jx_233 H2 hj, nI_clamp (show j < 2 ^ 31 by omega), nI_1, m_207 H2 hM2 O hj hN, sp_to]
        by_cases q : j < K 0 1
        · simp only [if_neg (nI_ge q (by omega)), if_pos q]
        · simp only [if_pos (nI_le (Nat.not_lt.mp q) (by omega)), if_neg q]
          rfl
      · intro c hc
        show pb_I (pb_pI g 233 j _) 233 c = _
        rw [ma_I_pI, if_pos rfl, ma_us]
        by_cases q : c = j
        · rw [if_pos q, q]
        · rw [if_neg q]; exact ht c (by omega)
    · rintro ⟨i, g⟩ ⟨hi, hf, ht⟩
      dsimp only at hi hf ht
      subst hi
      exact ⟨g, rfl, hf, ht⟩
  obtain ⟨e, h1, h2⟩ := hl
  refine ⟨e, ?_, h2⟩
  unfold f_208
  rw [h1]
  rfl
theorem sp_nv_le {K : ma_K} (to : Nat → Nat) (b m : Nat) : sp_nv K to b m ≤ K 0 1 := ma_fo_inv (g := fun c a => if b.testBit c ∧ sp_vt K c ∧ to c = m then a + 1 else a) (P := fun j a => a ≤ j) (a0 := 0) (Nat.le_refl _) (K 0 1) (fun j a _ ha => by split <;> omega)
theorem m_209 (H : ma_H h) (hM : ma_M h K) (O : ma_OK K) {to : Nat → Nat} (hT : ma_to h to) (hto : ∀ c, c < 6 → to c ≤ 6) {b : Nat} (hb : b < 64) (hN : 3000 < N) : f_209 N h 217 (nI b) = some (nI (sp_pk K to b)) := by
  have hmen := O.1
  have hch := O.2.1
  have hi : ∀ (x y : Int32) (m : Nat), m < 6 → pb_wl (f_209_23s N h 217 (nI b) x y (nI m)) N (0, 0) = some (nI (sp_nv K to b m)) := by
    intro x y m hm
    refine ma_lq (fun j a => (nI a, nI j)) (fun c a => if b.testBit c ∧ sp_vt K c ∧ to c = m then a + 1 else a) (K 0 1) (by omega) rfl (fun j a hj => ?_) ?_
    · have e1 : ¬ nI (K 0 1) ≤ nI j := nI_ge hj (by omega)
      have e2 : nI a + 0 = nI a := nI_add a 0
      have e3 := hto j (by omega)
      simp only [f_209_23s, ji_217 H, hM.2.1, if_neg e1, ma_has (show b < 2 ^ 31 by omega) (show j < 32 by omega), m_202 H hM O (show j < 6 by omega), Option.bind_some, ma_b0, e2, mr_217_35 H, jx_233 H (show j < 6 by omega), nI_clamp (show j < 2 ^ 31 by omega), hT j (by omega), nI_eq (show to j < 2 ^ 31 by omega) (show m < 2 ^ 31 by omega), nI_1]
      cases b.testBit j <;> cases sp_vt K j <;> by_cases q : to j = m <;> simp [q]
    · have e1 : nI (K 0 1) ≤ nI (K 0 1) := nI_le (Nat.le_refl _) (by omega)
      simp only [f_209_23s, ji_217 H, hM.2.1, if_pos e1]
      rfl
  have hl : pb_wl (f_209_8s N h 217 (nI b)) N (6, 0, 0) = some (nI (sp_pk K to b)) := by
    refine ma_lp (fun j a => (nI a.1, nI a.2, nI j)) (fun m a => if a.2 < sp_nv K to b m then (m, sp_nv K to b m) else a) (fun _ a => a.2 ≤ 6) (K 0 0) (a0 := (6, 0)) (by omega) (Nat.zero_le _) rfl (fun j a hj ha => ⟨?_, ?_⟩) ?_
    · have := sp_nv_le (K := K) to b j
      split
      · show sp_nv K to b j ≤ 6; omega
      · exact ha
    · have e1 : ¬ nI (K 0 0) ≤ nI j := nI_ge hj (by omega)
      have e2 := sp_nv_le (K := K) to b j
      simp only [f_209_8s, ji_217 H, hM.1, if_neg e1, hi _ _ j (by omega), Option.bind_some, nI_leI (show sp_nv K to b j < 2 ^ 31 by omega) (show a.2 < 2 ^ 31 by omega), f_209_90, m_170 (show a.2 < 2 ^ 31 by omega) (show sp_nv K to b j < 2 ^ 31 by omega), nI_1]
      by_cases q : a.2 < sp_nv K to b j
      · rw [if_neg (by omega), if_pos q, Nat.max_eq_right (by omega)]
      · rw [if_pos (by omega), if_neg q, Nat.max_eq_left (by omega)]
    · intro _
      have e1 : nI (K 0 0) ≤ nI (K 0 0) := nI_le (Nat.le_refl _) (by omega)
      simp only [f_209_8s, ji_217 H, hM.1, if_pos e1]
      rfl
  unfold f_209
  rw [hl]
  rfl
theorem sp_to_le {K : ma_K} (O : ma_OK K) (c : Nat) : sp_to K c ≤ 6 := by
  unfold sp_to
  split
  · exact sp_pt_le O c 63
  · exact Nat.le_refl _
theorem m_210 (H : ma_H h) (hM : ma_M h K) (O : ma_OK K) (hN : 3000 < N) : ∃ h2, f_210 N h 217 = some (nI (sp_pk K (sp_to K) 63), h2) ∧ ma_fr [233] [] h h2 := by
  obtain ⟨h2, e1, f, t⟩ := m_208 H hM O hN
  have H2 := ma_H_fr H f
  have e2 := m_209 H2 (ma_M_fr hM f (by decide) (by decide)) O t (fun c _ => sp_to_le O c) (b := 63) (by decide) hN
  refine ⟨h2, ?_, f⟩
  simp only [f_210, ji_217 H, e1, Option.bind_some, ji_217 H2]
  rw [show (63 : Int32) = nI 63 from rfl, e2]
  rfl
end
