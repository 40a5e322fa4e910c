/-! The developers' own county: the same numbers. -/
section
variable {h : pb_HP} {K : ma_K} {N c : Nat}
theorem jv_is (H : ma_H h) (hc : ma_ct c) {α : Type} {a b : α} : (if pb_is h c 0 then a else b) = a := if_pos (ma_is H.1 (by have := hc.1; omega) hc.2.2.1)
theorem jv_r (H : ma_H h) (hc : ma_ct c) {k o : Nat} (e : ma_RT c k = some o) : pb_R h c k = some o := by rw [H.2 c k (fun q => hc.2.1 q.1)]; exact e
theorem jv_r2 (H : ma_H h) (hc : ma_ct c) : pb_R h c 2 = some (c + 1) := jv_r H hc hc.2.2.2.2.2.2.2.2.2.1
theorem jv_r3 (H : ma_H h) (hc : ma_ct c) : pb_R h c 3 = some (c + 2) := jv_r H hc hc.2.2.2.2.2.2.2.2.2.2.1
theorem jv_r4 (H : ma_H h) (hc : ma_ct c) : pb_R h c 4 = some (c + 3) := jv_r H hc hc.2.2.2.2.2.2.2.2.2.2.2.1
theorem jv_r5 (H : ma_H h) (hc : ma_ct c) : pb_R h c 5 = some (c + 4) := jv_r H hc hc.2.2.2.2.2.2.2.2.2.2.2.2.1
theorem jv_r6 (H : ma_H h) (hc : ma_ct c) : pb_R h c 6 = some (c + 5) := jv_r H hc hc.2.2.2.2.2.2.2.2.2.2.2.2.2.1
theorem jv_r7 (H : ma_H h) (hc : ma_ct c) : pb_R h c 7 = some (c + 6) := jv_r H hc hc.2.2.2.2.2.2.2.2.2.2.2.2.2.2
theorem jv_x1 (H : ma_H h) (hc : ma_ct c) {j : Nat} (hj : j < 6) {α : Type} {a b : α} : (if pb_ar h (c + 1) 12 (nI j) then a else b) = a := if_pos (ma_ar H.1 (by have := hc.1; omega) hc.2.2.2.1 hj (by decide))
theorem jv_x2 (H : ma_H h) (hc : ma_ct c) {j : Nat} (hj : j < 6) {α : Type} {a b : α} : (if pb_ar h (c + 2) 12 (nI j) then a else b) = a := if_pos (ma_ar H.1 (by have := hc.1; omega) hc.2.2.2.2.1 hj (by decide))
theorem jv_x3 (H : ma_H h) (hc : ma_ct c) {j : Nat} (hj : j < 6) {α : Type} {a b : α} : (if pb_ar h (c + 3) 12 (nI j) then a else b) = a := if_pos (ma_ar H.1 (by have := hc.1; omega) hc.2.2.2.2.2.1 hj (by decide))
theorem jv_x4 (H : ma_H h) (hc : ma_ct c) {j : Nat} (hj : j < 6) {α : Type} {a b : α} : (if pb_ar h (c + 4) 12 (nI j) then a else b) = a := if_pos (ma_ar H.1 (by have := hc.1; omega) hc.2.2.2.2.2.2.1 hj (by decide))
theorem jv_x5 (H : ma_H h) (hc : ma_ct c) {j : Nat} (hj : j < 6) {α : Type} {a b : α} : (if pb_ar h (c + 5) 12 (nI j) then a else b) = a := if_pos (ma_ar H.1 (by have := hc.1; omega) hc.2.2.2.2.2.2.2.1 hj (by decide))
theorem jv_x6 (H : ma_H h) (hc : ma_ct c) {j : Nat} (hj : j < 36) {α : Type} {a b : α} : (if pb_ar h (c + 6) 12 (nI j) then a else b) = a := if_pos (ma_ar H.1 (by have := hc.1; omega) hc.2.2.2.2.2.2.2.2.1 hj (by decide))
theorem ma_at_if (x : Int32) (n : Nat) : (if x < 0 then (some 0 : Option Int32) else if nI n ≤ x then some 0 else some 1) = some (if ma_at x n then 1 else 0) := by
  unfold ma_at
  by_cases h1 : x < 0
  · have : ¬ (0 : Int32) ≤ x := by rw [Int32.not_le]; exact h1
    simp [h1, this]
  · have h2 : (0 : Int32) ≤ x := by rw [← Int32.not_lt]; exact h1
    by_cases h3 : nI n ≤ x
    · have : ¬ x < nI n := by rw [Int32.not_lt]; exact h3
      simp [h1, h2, h3, this]
    · have : x < nI n := by rw [← Int32.not_le]; exact h3
      simp [h1, h2, h3, this]
theorem c_3 (H : ma_H h) (V : ma_V h c K) (x : Int32) : f_3 h c x = some (if ma_at x (K 0 0) then 1 else 0) := by
  simp only [f_3, jv_is H V.1, V.2.1, ma_at_if]
theorem c_4 (H : ma_H h) (V : ma_V h c K) (x : Int32) : f_4 h c x = some (if ma_at x (K 0 1) then 1 else 0) := by
  simp only [f_4, jv_is H V.1, V.2.2.1, ma_at_if]
theorem c_7 (H : ma_H h) (V : ma_V h c K) (O : ma_OK K) {i : Nat} (hi : i < 6) : f_7 h c (nI i) = some (if i < K 0 1 ∧ sp_vt K i then 1 else 0) := by
  have hch := O.2.1
  have b3 := (O.2.2.1 i).2.2.1
  have b4 := (O.2.2.1 i).2.2.2.1
  simp only [f_7, jv_is H V.1, c_4 H V, Option.bind_some, ma_b0, ma_at_nI (show i < 2 ^ 31 by omega) (show K 0 1 < 2 ^ 31 by omega)]
  by_cases q : i < K 0 1
  · simp only [q, decide_true, jv_r4 H V.1, jv_r5 H V.1, Option.bind_some, jv_x3 H V.1 hi, jv_x4 H V.1 hi, nI_clamp (show i < 2 ^ 31 by omega), V.2.2.2.2.2.1 i q, V.2.2.2.2.2.2.1 i q]
    have e1 : ((12 : Int32) < nI (K 3 i)) = (12 < K 3 i) := propext (nI_ltI (a := 12) (by decide) (by omega))
    have e2 : (nI (K 4 i) ≤ (0 : Int32)) = (K 4 i ≤ 0) := propext (nI_leI (b := 0) (by omega) (by decide))
    simp only [e1, e2, sp_vt]
    by_cases q1 : 12 < K 3 i
    · simp [q1, Nat.not_le.mpr q1]
    · by_cases q2 : K 4 i ≤ 0
      · have : K 4 i = 0 := by omega
        simp [q1, this]
      · simp [q1, q2, Nat.not_lt.mp q1, Nat.not_le.mp q2]
  · simp [q]
theorem c_7n (H : ma_H h) (V : ma_V h c K) {x : Int32} (hx : ma_at x (K 0 1) = false) : f_7 h c x = some 0 := by
  simp [f_7, jv_is H V.1, c_4 H V, hx]
theorem c_9 (H : ma_H h) (V : ma_V h c K) (O : ma_OK K) {i m : Nat} (hi : i < 6) (hm : m < 6) (hN : 3000 < N) : f_9 N h c (nI i) (nI m) = some (mI (sp_rg K i m)) := by
  have b1 := (O.2.2.1 m).2.1
  have b3 : K 5 i &&& K 2 m < 2 ^ 31 := Nat.lt_of_le_of_lt Nat.and_le_right (by omega)
  have hl : pb_wl (f_9_23s N h c (nI i) (nI m)) N (0, 0) = some (nI (sp_ls K i (K 2 m))) := by
    refine ma_lq (fun j a => (nI a, nI j)) _ 6 (by omega) rfl (fun j a hj => ?_) rfl
    have e1 : ¬ (6 : Int32) ≤ nI j := nI_ge (b := 6) hj (by decide)
    have e2 := V.2.2.2.2.2.2.2.2 (6 * i + j) (by omega)
    have e3 : nI i * (6 : Int32) + nI j = nI (6 * i + j) := by rw [Nat.mul_comm, ← nI_add, ← pk_mul]; rfl
    simp only [f_9_23s, if_neg e1, jv_is H V.1, jv_r3 H V.1, jv_r7 H V.1, Option.bind_some, jv_x2 H V.1 hm, nI_clamp (show m < 2 ^ 31 by omega), V.2.2.2.2.1 m hm, ma_bit (show K 2 m < 2 ^ 31 by omega) (show j < 32 by omega), ma_b0, e3, jv_x6 H V.1 (show 6 * i + j < 36 by omega), nI_clamp (show 6 * i + j < 2 ^ 31 by omega), e2, nI_add, nI_1]
    cases (K 2 m).testBit j <;> simp
  have e3 : (nI (K 5 i &&& K 2 m) = 0) = (K 5 i &&& K 2 m = 0) := propext (nI_eq (b := 0) b3 (by decide))
  simp only [f_9, jv_is H V.1, jv_r6 H V.1, jv_r3 H V.1, Option.bind_some, jv_x5 H V.1 hi, jv_x2 H V.1 hm, nI_clamp (show m < 2 ^ 31 by omega), nI_clamp (show i < 2 ^ 31 by omega), V.2.2.2.2.1 m hm, V.2.2.2.2.2.2.2.1 i hi, fa_and, e3, hl]
  unfold sp_rg sp_dr
  rw [Nat.and_comm (K 2 m)]
  by_cases q : K 5 i &&& K 2 m = 0
  · simp [q, mI_s]
  · simp [q, mI_0]
theorem c_11 (H : ma_H h) (V : ma_V h c K) (O : ma_OK K) {i s : Nat} (hi : i < 6) (hs : s < 64) (hN : 3000 < N) : f_11 N h c (nI i) (nI s) = some (nI (sp_pt K i s)) := by
  have hmen := O.1
  have hl : pb_wl (f_11_9s N h c (nI i) (nI s)) N (-1, 6, 0) = some (nI (sp_pt K i s)) := by
    refine ma_lp (fun j a => (mI a.1, nI a.2, nI j)) (sp_pg K i s) (fun j a => a.1 ≤ 601) (K 0 0) (a0 := (0, 6)) (by omega) (Nat.zero_le _) rfl (fun j a hj ha => ⟨?_, ?_⟩) ?_
    · have := sp_rg_le O i j
      unfold sp_pg
      split
      · exact this
      · exact ha
    · have e1 : ¬ nI (K 0 0) ≤ nI j := nI_ge hj (by omega)
      have e2 := sp_rg_le O i j
      simp only [f_11_9s, jv_is H V.1, V.2.1, if_neg e1, ma_bit (show s < 2 ^ 31 by omega) (show j < 32 by omega), ma_b0, c_9 H V O hi (show j < 6 by omega) hN, Option.bind_some, mI_le (show sp_rg K i j < 2 ^ 31 by omega) (show a.1 < 2 ^ 31 by omega), nI_1, sp_pg]
      by_cases t1 : s.testBit j
      · by_cases t2 : a.1 < sp_rg K i j
        · simp [t1, t2, Nat.not_le.mpr t2]
        · simp [t1, t2, Nat.not_lt.mp t2]
      · simp [t1]
    · intro _
      have e1 : nI (K 0 0) ≤ nI (K 0 0) := nI_le (Nat.le_refl _) (by omega)
      simp only [f_11_9s, jv_is H V.1, V.2.1, if_pos e1]
      rfl
  unfold f_11
  rw [hl]
  rfl
theorem c_12 (H : ma_H h) (V : ma_V h c K) (O : ma_OK K) {m i : Nat} (hm : m < K 0 0) (hi : i < K 0 1) : f_12 h c (nI m) (nI i) = some (if 0 < K 4 i ∧ K 4 i ≤ 10 * K 1 m then 1 else 0) := by
  have hmen := O.1
  have hch := O.2.1
  have b4 := (O.2.2.1 i).2.2.2.1
  have b1 := (O.2.2.1 m).1
  have e2 : (nI (K 4 i) ≤ (0 : Int32)) = (K 4 i ≤ 0) := propext (nI_leI (b := 0) (by omega) (by decide))
  have e3 : (10 : Int32) * nI (K 1 m) = nI (10 * K 1 m) := pk_mul 10 _
  simp only [f_12, jv_is H V.1, jv_r5 H V.1, jv_r2 H V.1, Option.bind_some, jv_x4 H V.1 (show i < 6 by omega), jv_x1 H V.1 (show m < 6 by omega), nI_clamp (show i < 2 ^ 31 by omega), nI_clamp (show m < 2 ^ 31 by omega), V.2.2.2.2.2.2.1 i hi, V.2.2.2.1 m hm, e2, e3, nI_ltI (show 10 * K 1 m < 2 ^ 31 by omega) (show K 4 i < 2 ^ 31 by omega)]
  by_cases q1 : K 4 i ≤ 0
  · have : K 4 i = 0 := by omega
    simp [this]
  · by_cases q2 : 10 * K 1 m < K 4 i
    · simp [q1, q2, Nat.not_le.mpr q2]
    · simp [q1, q2, Nat.not_lt.mp q2, Nat.not_le.mp q1]
end
