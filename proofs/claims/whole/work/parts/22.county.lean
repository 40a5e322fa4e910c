/-! A county as numbers: K 0 0 men, K 0 1 children, K 1 kindness, K 2 traits, K 3 age, K 4 term, K 5 fears, K 6 likes. -/
abbrev ma_K : Type := Nat → Nat → Nat
def ma_OK (K : ma_K) : Prop := K 0 0 ≤ 6 ∧ K 0 1 ≤ 6 ∧ (∀ k, K 1 k ≤ 9 ∧ K 2 k < 64 ∧ K 3 k ≤ 99 ∧ K 4 k ≤ 30 ∧ K 5 k < 64 ∧ K 6 k ≤ 99) ∧ (∀ m, K 0 0 ≤ m → K 2 m = 0) ∧ ∀ c, K 0 1 ≤ c → K 5 c = 0
/-- the model's county at hand -/
def ma_M (h : pb_HP) (K : ma_K) : Prop := pb_I h 217 24 = nI (K 0 0) ∧ pb_I h 217 25 = nI (K 0 1) ∧ (∀ m, m < 6 → pb_I h 228 m = nI (K 2 m)) ∧ (∀ m, m < 6 → pb_I h 229 m = nI (K 3 m)) ∧ (∀ m, m < 6 → pb_I h 230 m = nI (K 4 m)) ∧ (∀ m, m < 6 → pb_I h 231 m = nI (K 5 m)) ∧ ∀ m, m < 36 → pb_I h 232 m = nI (K 6 m)
/-- the model's county k as told -/
def ma_T (h : pb_HP) (k : Nat) (K : ma_K) : Prop := pb_I h 223 (68 * k + 0) = nI (K 0 0) ∧ pb_I h 223 (68 * k + 1) = nI (K 0 1) ∧ (∀ m, m < 6 → pb_I h 223 (68 * k + (2 + m)) = nI (K 1 m)) ∧ (∀ m, m < 6 → pb_I h 223 (68 * k + (8 + m)) = nI (K 2 m)) ∧ (∀ m, m < 6 → pb_I h 223 (68 * k + (14 + m)) = nI (K 3 m)) ∧ (∀ m, m < 6 → pb_I h 223 (68 * k + (20 + m)) = nI (K 4 m)) ∧ (∀ m, m < 6 → pb_I h 223 (68 * k + (26 + m)) = nI (K 5 m)) ∧ ∀ m, m < 36 → pb_I h 223 (68 * k + (32 + m)) = nI (K 6 m)
/-- an object that is a county: its rows lie behind it -/
def ma_ct (c : Nat) : Prop := c + 6 < 241 ∧ c ≠ 163 ∧ pb_SH c = (0, 0) ∧ pb_SH (c + 1) = (12, 6) ∧ pb_SH (c + 2) = (12, 6) ∧ pb_SH (c + 3) = (12, 6) ∧ pb_SH (c + 4) = (12, 6) ∧ pb_SH (c + 5) = (12, 6) ∧ pb_SH (c + 6) = (12, 36) ∧ ma_RT c 2 = some (c + 1) ∧ ma_RT c 3 = some (c + 2) ∧ ma_RT c 4 = some (c + 3) ∧ ma_RT c 5 = some (c + 4) ∧ ma_RT c 6 = some (c + 5) ∧ ma_RT c 7 = some (c + 6)
/-- a county of the developers' own -/
def ma_V (h : pb_HP) (c : Nat) (K : ma_K) : Prop := ma_ct c ∧ pb_I h c 0 = nI (K 0 0) ∧ pb_I h c 1 = nI (K 0 1) ∧ (∀ m, m < K 0 0 → pb_I h (c + 1) m = nI (K 1 m)) ∧ (∀ m, m < 6 → pb_I h (c + 2) m = nI (K 2 m)) ∧ (∀ m, m < K 0 1 → pb_I h (c + 3) m = nI (K 3 m)) ∧ (∀ m, m < K 0 1 → pb_I h (c + 4) m = nI (K 4 m)) ∧ (∀ m, m < 6 → pb_I h (c + 5) m = nI (K 5 m)) ∧ ∀ m, m < 36 → pb_I h (c + 6) m = nI (K 6 m)
def sp_ls (K : ma_K) (c s : Nat) : Nat := ma_fo (fun t a => if s.testBit t then a + K 6 (6 * c + t) else a) 6 0
def sp_dr (K : ma_K) (c m : Nat) : Bool := (K 2 m &&& K 5 c) != 0
def sp_rg (K : ma_K) (c m : Nat) : Nat := if sp_dr K c m then 0 else sp_ls K c (K 2 m) + 1
def sp_pg (K : ma_K) (c s : Nat) (m : Nat) (a : Nat × Nat) : Nat × Nat := if s.testBit m ∧ a.1 < sp_rg K c m then (sp_rg K c m, m) else a
def sp_pt (K : ma_K) (c s : Nat) : Nat := (ma_fo (sp_pg K c s) (K 0 0) (0, 6)).2
theorem ma_sl {K : ma_K} (O : ma_OK K) (c s : Nat) : sp_ls K c s ≤ 600 := by
  have := ma_fo_inv (g := fun t a => if s.testBit t then a + K 6 (6 * c + t) else a) (P := fun j a => a ≤ 100 * j) (a0 := 0) (Nat.le_refl _) 6 (fun j a _ ha => by
    have := (O.2.2.1 (6 * c + j)).2.2.2.2.2
    split <;> omega)
  exact Nat.le_trans this (by omega)
theorem sp_rg_le {K : ma_K} (O : ma_OK K) (c m : Nat) : sp_rg K c m ≤ 601 := by
  have := ma_sl O c (K 2 m)
  unfold sp_rg
  split <;> omega
def sp_vt (K : ma_K) (c : Nat) : Bool := decide (K 3 c ≤ 12) && decide (0 < K 4 c)
def sp_vs (K : ma_K) : Nat := ma_fo (fun c a => if sp_vt K c then a ||| 2 ^ c else a) (K 0 1) 0
def sp_nv (K : ma_K) (to : Nat → Nat) (b m : Nat) : Nat := ma_fo (fun c a => if b.testBit c ∧ sp_vt K c ∧ to c = m then a + 1 else a) (K 0 1) 0
def sp_pk (K : ma_K) (to : Nat → Nat) (b : Nat) : Nat := (ma_fo (fun m a => if a.2 < sp_nv K to b m then (m, sp_nv K to b m) else a) (K 0 0) (6, 0)).1
def sp_to (K : ma_K) (c : Nat) : Nat := if c < K 0 1 then sp_pt K c 63 else 6
theorem sp_pg_inv (K : ma_K) (c s : Nat) (n : Nat) (hn : n ≤ 6) : ((ma_fo (sp_pg K c s) n (0, 6)).2 = 6 ∧ (ma_fo (sp_pg K c s) n (0, 6)).1 = 0) ∨ ((ma_fo (sp_pg K c s) n (0, 6)).2 < n ∧ (ma_fo (sp_pg K c s) n (0, 6)).1 = sp_rg K c (ma_fo (sp_pg K c s) n (0, 6)).2 ∧ 0 < (ma_fo (sp_pg K c s) n (0, 6)).1) := by
  refine ma_fo_inv (g := sp_pg K c s) (a0 := (0, 6)) (P := fun j a => (a.2 = 6 ∧ a.1 = 0) ∨ (a.2 < j ∧ a.1 = sp_rg K c a.2 ∧ 0 < a.1)) (.inl ⟨rfl, rfl⟩) n ?_
  intro j a hj ha
  show _ ∨ _
  unfold sp_pg
  split
  · rename_i q
    exact .inr ⟨Nat.lt_succ_self j, rfl, by dsimp only; omega⟩
  · rcases ha with q | q
    · exact .inl q
    · exact .inr ⟨by omega, q.2⟩
theorem sp_pt_le {K : ma_K} (O : ma_OK K) (c s : Nat) : sp_pt K c s ≤ 6 := by
  have := sp_pg_inv K c s (K 0 0) O.1
  have := O.1
  unfold sp_pt
  omega
section
variable {h : pb_HP} {K : ma_K} {N : Nat}
theorem m_204 (H : ma_H h) (hM : ma_M h K) {c s : Nat} (hc : c < 6) (hs : s < 64) (hN : 3000 < N) : f_204 N h 217 (nI c) (nI s) = some (nI (sp_ls K c s)) := by
  have hl : pb_wl (f_204_5s N h 217 (nI c) (nI s)) N (0, 0) = some (nI (sp_ls K c s)) := by
    refine ma_lq (fun j a => (nI a, nI j)) _ 6 (by omega) rfl (fun j a hj => ?_) rfl
    have e1 : ¬ (6 : Int32) ≤ nI j := nI_ge (b := 6) hj (by decide)
    have e2 := hM.2.2.2.2.2.2 (6 * c + j) (by omega)
    have e3 : (6 : Int32) * nI c + nI j = nI (6 * c + j) := by rw [← nI_add, ← pk_mul]; rfl
    simp only [f_204_5s, if_neg e1, ma_has (show s < 2 ^ 31 by omega) (show j < 32 by omega), Option.bind_some, ma_b0, ji_217 H, mr_217_34 H, e3, jx_232 H (show 6 * c + j < 36 by omega), nI_clamp (show 6 * c + j < 2 ^ 31 by omega), e2, nI_add, nI_1]
    cases s.testBit j <;> simp [nI_1]
  unfold f_204
  rw [hl]
  rfl
theorem m_205 (H : ma_H h) (hM : ma_M h K) {c m : Nat} (hc : c < 6) (hm : m < 6) (O : ma_OK K) : f_205 h 217 (nI c) (nI m) = some (if sp_dr K c m then 1 else 0) := by
  have e1 := hM.2.2.1 m hm
  have e2 := hM.2.2.2.2.2.1 c hc
  have b1 := (O.2.2.1 m).2.1
  have b3 : K 2 m &&& K 5 c < 2 ^ 31 := Nat.lt_of_le_of_lt Nat.and_le_left (by omega)
  simp only [f_205, ji_217 H, mr_217_30 H, mr_217_33 H, Option.bind_some, jx_228 H hm, jx_231 H hc, nI_clamp (show m < 2 ^ 31 by omega), nI_clamp (show c < 2 ^ 31 by omega), e1, e2, fa_and]
  have e3 : (nI (K 2 m &&& K 5 c) = 0) = (K 2 m &&& K 5 c = 0) := propext (nI_eq (b := 0) b3 (by decide))
  simp only [e3, sp_dr]
  by_cases q : K 2 m &&& K 5 c = 0 <;> simp [q]
theorem m_206 (H : ma_H h) (hM : ma_M h K) (O : ma_OK K) {c s : Nat} (hc : c < 6) (hs : s < 64) (hN : 3000 < N) : f_206 N h 217 (nI c) (nI s) = some (nI (sp_pt K c s)) := by
  have hl : pb_wl (f_206_6s N h 217 (nI c) (nI s)) N (6, 0) = some (nI (sp_pt K c s)) := by
    have hmen := O.1
    refine ma_lp (fun j a => (nI a.2, nI j)) (sp_pg K c s) (fun j a => (a.2 = 6 ∧ a.1 = 0) ∨ (a.2 < j ∧ a.1 = sp_rg K c a.2 ∧ 0 < a.1)) (K 0 0) (a0 := (0, 6)) (by omega) (.inl ⟨rfl, rfl⟩) rfl (fun j a hj ha => ⟨?_, ?_⟩) ?_
    · show _ ∨ _
      unfold sp_pg
      split
      · rename_i q
        exact .inr ⟨Nat.lt_succ_self j, rfl, by dsimp only; omega⟩
      · rcases ha with q | q
        · exact .inl q
        · exact .inr ⟨by omega, q.2⟩
    · have e1 : ¬ nI (K 0 0) ≤ nI j := nI_ge hj (by omega)
      have b1 := (O.2.2.1 j).2.1
      have s1 := ma_sl O c (K 2 j)
      have hd : ∀ s0 : Int32, s0 = 0 ∨ s0 = 1 → f_206_52 N h 217 (nI c) (nI s) (nI a.2) (nI j) s0 = some (.inl (if s.testBit j ∧ sp_dr K c j = false ∧ s0 = 1 then nI j else nI a.2, nI (j + 1))) := by
        intro s0 h0
        simp only [f_206_52, ma_has (show s < 2 ^ 31 by omega) (show j < 32 by omega), Option.bind_some, ma_b0, ji_217 H, m_205 H hM hc (show j < 6 by omega) O, nI_1]
        cases s.testBit j <;> cases sp_dr K c j <;> rcases h0 with h0 | h0 <;> simp [h0]
      simp only [f_206_6s, ji_217 H, hM.1, if_neg e1]
      by_cases q : a.2 = 6
      · have q0 : a.1 = 0 := by omega
        have e2 : nI a.2 = 6 := by rw [q]; rfl
        rw [if_pos e2, hd 1 (.inr rfl)]
        unfold sp_pg sp_rg
        rw [q0]
        by_cases t1 : s.testBit j <;> by_cases t2 : sp_dr K c j <;> simp [t1, t2]
      · have q1 : a.2 < j ∧ a.1 = sp_rg K c a.2 ∧ 0 < a.1 := by omega
        have e2 : ¬ nI a.2 = 6 := fun z => q ((nI_eq (b := 6) (by omega) (by decide)).mp z)
        have b2 := (O.2.2.1 a.2).2.1
        have s2 := ma_sl O c (K 2 a.2)
        have q2 : sp_dr K c a.2 = false := by
          cases z : sp_dr K c a.2
          · rfl
          · have := q1.2.1; have := q1.2.2; unfold sp_rg at *; simp [z] at *; omega
        have q3 : a.1 = sp_ls K c (K 2 a.2) + 1 := by rw [q1.2.1]; unfold sp_rg; simp [q2]
        simp only [if_neg e2, mr_217_30 H, Option.bind_some, jx_228 H (show j < 6 by omega), jx_228 H (show a.2 < 6 by omega), nI_clamp (show j < 2 ^ 31 by omega), nI_clamp (show a.2 < 2 ^ 31 by omega), hM.2.2.1 j (by omega), hM.2.2.1 a.2 (by omega), m_204 H hM hc b1 hN, m_204 H hM hc b2 hN, nI_leI (show sp_ls K c (K 2 j) < 2 ^ 31 by omega) (show sp_ls K c (K 2 a.2) < 2 ^ 31 by omega), hd 1 (.inr rfl), hd 0 (.inl rfl)]
        unfold sp_pg sp_rg
        rw [q3]
        by_cases t1 : s.testBit j <;> by_cases t2 : sp_dr K c j <;> rcases Nat.lt_or_ge (sp_ls K c (K 2 a.2)) (sp_ls K c (K 2 j)) with t3 | t3 <;> first | simp [t1, t2, t3, Nat.not_le.mpr t3] | simp [t1, t2, t3, Nat.not_lt.mpr t3]
    · intro _
      have e1 : nI (K 0 0) ≤ nI (K 0 0) := nI_le (Nat.le_refl _) (by omega)
      simp only [f_206_6s, ji_217 H, hM.1, if_pos e1]
      rfl
  unfold f_206
  rw [hl]
  rfl
end
