/-! The law: its loop over the script, call by call. -/
theorem lw_in {n j k : Nat} (hn : n < 2 ^ 31) (h : j + k < n) : pb_in (nI j + nI k) n := by
  rw [nI_add]
  exact ⟨nI_pos' (by omega), by rw [nI_clamp (by omega)]; exact h⟩
theorem lw_in0 {n j : Nat} (hn : n < 2 ^ 31) (h : j < n) : pb_in (nI j) n := ⟨nI_pos' (by omega), by rw [nI_clamp (by omega)]; exact h⟩
theorem lw_no {n j : Nat} (hn : n < 2 ^ 31) (h : j + 6 ≤ n) : ¬ (Int32.ofNat n - 6 < nI j) := by
  have e : Int32.ofNat n - 6 = nI (n - 6) := lK6 (j := n) (by omega)
  rw [e, nI_ltI (by omega) (by omega)]
  omega
section
variable {xs : List Int32} {N j : Nat} {h : pb_HP}
theorem lw_0 (hL : xs.length ≤ 3072) (I : ma_INV h) (hN : 50000 < N) (hj : j + 6 ≤ xs.length) (c : xs.getD (nI j).toNatClampNeg 0 &&& 63 = 0) : ∃ g, f_307_18s xs N 0 217 (nI j, h) = some (.inl (nI (j + 6), g)) ∧ ma_INV g := by
  have p0 : pb_in (nI j) xs.length := lw_in0 (by omega) (by omega)
  have p1 : pb_in (nI j + 1) xs.length := lw_in (k := 1) (by omega) (by omega)
  have p2 : pb_in (nI j + 2) xs.length := lw_in (k := 2) (by omega) (by omega)
  have p3 : pb_in (nI j + 3) xs.length := lw_in (k := 3) (by omega) (by omega)
  have p4 : pb_in (nI j + 4) xs.length := lw_in (k := 4) (by omega) (by omega)
  have p5 : pb_in (nI j + 5) xs.length := lw_in (k := 5) (by omega) (by omega)
  have i0 := mi_0 I.1
  have e0 : ¬ (Int32.ofNat xs.length - 6 < nI j) := lw_no (by omega) hj
  unfold f_307_18s
  dsimp only
  rw [if_neg e0, if_pos p0, c, if_pos rfl]
  obtain ⟨x1, h1⟩ : ∃ x, xs.getD (nI j + 1).toNatClampNeg 0 = x := ⟨_, rfl⟩
  obtain ⟨x2, h2⟩ : ∃ x, xs.getD (nI j + 2).toNatClampNeg 0 = x := ⟨_, rfl⟩
  obtain ⟨x3, h3⟩ : ∃ x, xs.getD (nI j + 3).toNatClampNeg 0 = x := ⟨_, rfl⟩
  obtain ⟨x4, h4⟩ : ∃ x, xs.getD (nI j + 4).toNatClampNeg 0 = x := ⟨_, rfl⟩
  obtain ⟨x5, h5⟩ : ∃ x, xs.getD (nI j + 5).toNatClampNeg 0 = x := ⟨_, rfl⟩
  obtain ⟨r, g, g2, eA, eB, k2⟩ := st_feed I (N := N) (by omega) x1 x2 x3 x4 x5
  dsimp only at eB
  have i1 : pb_is g 217 11 := by
    have z := eB
    unfold f_176 at z
    exact (pb_gd z).1
  refine ⟨g2, ?_, k2⟩
  repeat (first | rw [if_pos p1] | rw [if_pos p2] | rw [if_pos p3] | rw [if_pos p4] | rw [if_pos p5] | rw [if_pos i0])
  rw [h1, h2, h3, h4, h5, eA, Option.bind_some]
  dsimp only
  repeat (first | rw [if_pos p1] | rw [if_pos p2] | rw [if_pos p3] | rw [if_pos p4] | rw [if_pos p5] | rw [if_pos i1])
  rw [eB, Option.bind_some]
  dsimp only
  rw [if_pos rfl, lH6]
theorem lw_1 (hL : xs.length ≤ 3072) (I : ma_INV h) (hN : 50000 < N) (hj : j + 6 ≤ xs.length) (c : xs.getD (nI j).toNatClampNeg 0 &&& 63 = 1) : ∃ g, f_307_18s xs N 0 217 (nI j, h) = some (.inl (nI (j + 6), g)) ∧ ma_INV g := by
  have p0 : pb_in (nI j) xs.length := lw_in0 (by omega) (by omega)
  have p1 : pb_in (nI j + 1) xs.length := lw_in (k := 1) (by omega) (by omega)
  have p2 : pb_in (nI j + 2) xs.length := lw_in (k := 2) (by omega) (by omega)
  have p3 : pb_in (nI j + 3) xs.length := lw_in (k := 3) (by omega) (by omega)
  have p4 : pb_in (nI j + 4) xs.length := lw_in (k := 4) (by omega) (by omega)
  have p5 : pb_in (nI j + 5) xs.length := lw_in (k := 5) (by omega) (by omega)
  have i0 := mi_0 I.1
  have e0 : ¬ (Int32.ofNat xs.length - 6 < nI j) := lw_no (by omega) hj
  unfold f_307_18s
  dsimp only
  rw [if_neg e0, if_pos p0, c, if_neg (show ¬ (1 : Int32) = 0 by decide), if_pos rfl]
  obtain ⟨x1, h1⟩ : ∃ x, xs.getD (nI j + 1).toNatClampNeg 0 = x := ⟨_, rfl⟩
  obtain ⟨r, g, g2, eA, eB, k2⟩ := st_end I x1
  dsimp only at eB
  have i1 : pb_is g 217 11 := by
    have z := eB
    unfold f_178 at z
    exact (pb_gd z).1
  refine ⟨g2, ?_, k2⟩
  repeat (first | rw [if_pos p1] | rw [if_pos p2] | rw [if_pos p3] | rw [if_pos p4] | rw [if_pos p5] | rw [if_pos i0])
  rw [h1, eA, Option.bind_some]
  dsimp only
  repeat (first | rw [if_pos p1] | rw [if_pos p2] | rw [if_pos p3] | rw [if_pos p4] | rw [if_pos p5] | rw [if_pos i1])
  rw [eB, Option.bind_some]
  dsimp only
  rw [if_pos rfl, lH6]
theorem lw_2 (hL : xs.length ≤ 3072) (I : ma_INV h) (hN : 50000 < N) (hj : j + 6 ≤ xs.length) (c : xs.getD (nI j).toNatClampNeg 0 &&& 63 = 2) : ∃ g, f_307_18s xs N 0 217 (nI j, h) = some (.inl (nI (j + 6), g)) ∧ ma_INV g := by
  have p0 : pb_in (nI j) xs.length := lw_in0 (by omega) (by omega)
  have p1 : pb_in (nI j + 1) xs.length := lw_in (k := 1) (by omega) (by omega)
  have p2 : pb_in (nI j + 2) xs.length := lw_in (k := 2) (by omega) (by omega)
  have p3 : pb_in (nI j + 3) xs.length := lw_in (k := 3) (by omega) (by omega)
  have p4 : pb_in (nI j + 4) xs.length := lw_in (k := 4) (by omega) (by omega)
  have p5 : pb_in (nI j + 5) xs.length := lw_in (k := 5) (by omega) (by omega)
  have i0 := mi_0 I.1
  have e0 : ¬ (Int32.ofNat xs.length - 6 < nI j) := lw_no (by omega) hj
  unfold f_307_18s
  dsimp only
  rw [if_neg e0, if_pos p0, c, if_neg (show ¬ (2 : Int32) = 0 by decide), if_neg (show ¬ (2 : Int32) = 1 by decide), if_pos rfl]
  obtain ⟨x1, h1⟩ : ∃ x, xs.getD (nI j + 1).toNatClampNeg 0 = x := ⟨_, rfl⟩
  obtain ⟨x2, h2⟩ : ∃ x, xs.getD (nI j + 2).toNatClampNeg 0 = x := ⟨_, rfl⟩
  obtain ⟨r, g, g2, eA, eB, k2⟩ := st_text I (N := N) (by omega) x1 x2
  dsimp only at eB
  have i1 : pb_is g 217 11 := by
    have z := eB
    unfold f_195 at z
    exact (pb_gd z).1
  refine ⟨g2, ?_, k2⟩
  repeat (first | rw [if_pos p1] | rw [if_pos p2] | rw [if_pos p3] | rw [if_pos p4] | rw [if_pos p5] | rw [if_pos i0])
  rw [h1, h2, eA, Option.bind_some]
  dsimp only
  repeat (first | rw [if_pos p1] | rw [if_pos p2] | rw [if_pos p3] | rw [if_pos p4] | rw [if_pos p5] | rw [if_pos i1])
  rw [eB, Option.bind_some]
  dsimp only
  rw [if_pos rfl, lH6]
theorem lw_3 (hL : xs.length ≤ 3072) (I : ma_INV h) (hN : 50000 < N) (hj : j + 6 ≤ xs.length) (c : xs.getD (nI j).toNatClampNeg 0 &&& 63 = 3) : ∃ g, f_307_18s xs N 0 217 (nI j, h) = some (.inl (nI (j + 6), g)) ∧ ma_INV g := by
  have p0 : pb_in (nI j) xs.length := lw_in0 (by omega) (by omega)
  have p1 : pb_in (nI j + 1) xs.length := lw_in (k := 1) (by omega) (by omega)
  have p2 : pb_in (nI j + 2) xs.length := lw_in (k := 2) (by omega) (by omega)
  have p3 : pb_in (nI j + 3) xs.length := lw_in (k := 3) (by omega) (by omega)
  have p4 : pb_in (nI j + 4) xs.length := lw_in (k := 4) (by omega) (by omega)
  have p5 : pb_in (nI j + 5) xs.length := lw_in (k := 5) (by omega) (by omega)
  have i0 := mi_0 I.1
  have e0 : ¬ (Int32.ofNat xs.length - 6 < nI j) := lw_no (by omega) hj
  unfold f_307_18s
  dsimp only
  rw [if_neg e0, if_pos p0, c, if_neg (show ¬ (3 : Int32) = 0 by decide), if_neg (show ¬ (3 : Int32) = 1 by decide), if_neg (show ¬ (3 : Int32) = 2 by decide), if_pos rfl]
  obtain ⟨x1, h1⟩ : ∃ x, xs.getD (nI j + 1).toNatClampNeg 0 = x := ⟨_, rfl⟩
  obtain ⟨r, g2, eA, eB, k2⟩ := q_fault I x1
  have i1 := mi_217 I.1
  dsimp only at eB
  refine ⟨g2, ?_, ma_INV_q I k2⟩
  repeat (first | rw [if_pos p1] | rw [if_pos p2] | rw [if_pos p3] | rw [if_pos p4] | rw [if_pos p5] | rw [if_pos i0])
  rw [h1, eA, Option.bind_some]
  repeat (first | rw [if_pos p1] | rw [if_pos p2] | rw [if_pos p3] | rw [if_pos p4] | rw [if_pos p5] | rw [if_pos i1])
  rw [eB, Option.bind_some]
  dsimp only
  rw [if_pos rfl, lH6]
theorem lw_4 (hL : xs.length ≤ 3072) (I : ma_INV h) (hN : 50000 < N) (hj : j + 6 ≤ xs.length) (c : xs.getD (nI j).toNatClampNeg 0 &&& 63 = 4) : ∃ g, f_307_18s xs N 0 217 (nI j, h) = some (.inl (nI (j + 6), g)) ∧ ma_INV g := by
  have p0 : pb_in (nI j) xs.length := lw_in0 (by omega) (by omega)
  have p1 : pb_in (nI j + 1) xs.length := lw_in (k := 1) (by omega) (by omega)
  have p2 : pb_in (nI j + 2) xs.length := lw_in (k := 2) (by omega) (by omega)
  have p3 : pb_in (nI j + 3) xs.length := lw_in (k := 3) (by omega) (by omega)
  have p4 : pb_in (nI j + 4) xs.length := lw_in (k := 4) (by omega) (by omega)
  have p5 : pb_in (nI j + 5) xs.length := lw_in (k := 5) (by omega) (by omega)
  have i0 := mi_0 I.1
  have e0 : ¬ (Int32.ofNat xs.length - 6 < nI j) := lw_no (by omega) hj
  unfold f_307_18s
  dsimp only
  rw [if_neg e0, if_pos p0, c, if_neg (show ¬ (4 : Int32) = 0 by decide), if_neg (show ¬ (4 : Int32) = 1 by decide), if_neg (show ¬ (4 : Int32) = 2 by decide), if_neg (show ¬ (4 : Int32) = 3 by decide), if_pos rfl]
  obtain ⟨x1, h1⟩ : ∃ x, xs.getD (nI j + 1).toNatClampNeg 0 = x := ⟨_, rfl⟩
  obtain ⟨x2, h2⟩ : ∃ x, xs.getD (nI j + 2).toNatClampNeg 0 = x := ⟨_, rfl⟩
  obtain ⟨r, g2, eA, eB, k2⟩ := q_county I (N := N) (by omega) x1 x2
  have i1 := mi_217 I.1
  dsimp only at eB
  refine ⟨g2, ?_, ma_INV_q I k2⟩
  repeat (first | rw [if_pos p1] | rw [if_pos p2] | rw [if_pos p3] | rw [if_pos p4] | rw [if_pos p5] | rw [if_pos i0])
  rw [h1, h2, eA, Option.bind_some]
  repeat (first | rw [if_pos p1] | rw [if_pos p2] | rw [if_pos p3] | rw [if_pos p4] | rw [if_pos p5] | rw [if_pos i1])
  rw [eB, Option.bind_some]
  dsimp only
  rw [if_pos rfl, lH6]
theorem lw_5 (hL : xs.length ≤ 3072) (I : ma_INV h) (hN : 50000 < N) (hj : j + 6 ≤ xs.length) (c : xs.getD (nI j).toNatClampNeg 0 &&& 63 = 5) : ∃ g, f_307_18s xs N 0 217 (nI j, h) = some (.inl (nI (j + 6), g)) ∧ ma_INV g := by
  have p0 : pb_in (nI j) xs.length := lw_in0 (by omega) (by omega)
  have p1 : pb_in (nI j + 1) xs.length := lw_in (k := 1) (by omega) (by omega)
  have p2 : pb_in (nI j + 2) xs.length := lw_in (k := 2) (by omega) (by omega)
  have p3 : pb_in (nI j + 3) xs.length := lw_in (k := 3) (by omega) (by omega)
  have p4 : pb_in (nI j + 4) xs.length := lw_in (k := 4) (by omega) (by omega)
  have p5 : pb_in (nI j + 5) xs.length := lw_in (k := 5) (by omega) (by omega)
  have i0 := mi_0 I.1
  have e0 : ¬ (Int32.ofNat xs.length - 6 < nI j) := lw_no (by omega) hj
  unfold f_307_18s
  dsimp only
  rw [if_neg e0, if_pos p0, c, if_neg (show ¬ (5 : Int32) = 0 by decide), if_neg (show ¬ (5 : Int32) = 1 by decide), if_neg (show ¬ (5 : Int32) = 2 by decide), if_neg (show ¬ (5 : Int32) = 3 by decide), if_neg (show ¬ (5 : Int32) = 4 by decide), if_pos rfl]
  obtain ⟨x1, h1⟩ : ∃ x, xs.getD (nI j + 1).toNatClampNeg 0 = x := ⟨_, rfl⟩
  obtain ⟨x2, h2⟩ : ∃ x, xs.getD (nI j + 2).toNatClampNeg 0 = x := ⟨_, rfl⟩
  obtain ⟨x3, h3⟩ : ∃ x, xs.getD (nI j + 3).toNatClampNeg 0 = x := ⟨_, rfl⟩
  obtain ⟨r, g2, eA, eB, k2⟩ := q_deed I x1 x2 x3
  have i1 := mi_217 I.1
  dsimp only at eB
  refine ⟨g2, ?_, ma_INV_q I k2⟩
  repeat (first | rw [if_pos p1] | rw [if_pos p2] | rw [if_pos p3] | rw [if_pos p4] | rw [if_pos p5] | rw [if_pos i0])
  rw [h1, h2, h3, eA, Option.bind_some]
  repeat (first | rw [if_pos p1] | rw [if_pos p2] | rw [if_pos p3] | rw [if_pos p4] | rw [if_pos p5] | rw [if_pos i1])
  rw [eB, Option.bind_some]
  dsimp only
  rw [if_pos rfl, lH6]
theorem lw_6 (hL : xs.length ≤ 3072) (I : ma_INV h) (hN : 50000 < N) (hj : j + 6 ≤ xs.length) (c : xs.getD (nI j).toNatClampNeg 0 &&& 63 = 6) : ∃ g, f_307_18s xs N 0 217 (nI j, h) = some (.inl (nI (j + 6), g)) ∧ ma_INV g := by
  have p0 : pb_in (nI j) xs.length := lw_in0 (by omega) (by omega)
  have p1 : pb_in (nI j + 1) xs.length := lw_in (k := 1) (by omega) (by omega)
  have p2 : pb_in (nI j + 2) xs.length := lw_in (k := 2) (by omega) (by omega)
  have p3 : pb_in (nI j + 3) xs.length := lw_in (k := 3) (by omega) (by omega)
  have p4 : pb_in (nI j + 4) xs.length := lw_in (k := 4) (by omega) (by omega)
  have p5 : pb_in (nI j + 5) xs.length := lw_in (k := 5) (by omega) (by omega)
  have i0 := mi_0 I.1
  have e0 : ¬ (Int32.ofNat xs.length - 6 < nI j) := lw_no (by omega) hj
  unfold f_307_18s
  dsimp only
  rw [if_neg e0, if_pos p0, c, if_neg (show ¬ (6 : Int32) = 0 by decide), if_neg (show ¬ (6 : Int32) = 1 by decide), if_neg (show ¬ (6 : Int32) = 2 by decide), if_neg (show ¬ (6 : Int32) = 3 by decide), if_neg (show ¬ (6 : Int32) = 4 by decide), if_neg (show ¬ (6 : Int32) = 5 by decide), if_pos rfl]
  obtain ⟨x1, h1⟩ : ∃ x, xs.getD (nI j + 1).toNatClampNeg 0 = x := ⟨_, rfl⟩
  obtain ⟨x2, h2⟩ : ∃ x, xs.getD (nI j + 2).toNatClampNeg 0 = x := ⟨_, rfl⟩
  obtain ⟨r, g, g2, eA, k1, eB, k2⟩ := q_till I (N := N) (by omega) x1 x2
  have i1 := mi_217 (ma_H_q I.1 k1)
  dsimp only at eB
  refine ⟨g2, ?_, ma_INV_q (ma_INV_q I k1) k2⟩
  repeat (first | rw [if_pos p1] | rw [if_pos p2] | rw [if_pos p3] | rw [if_pos p4] | rw [if_pos p5] | rw [if_pos i0])
  rw [h1, h2, eA, Option.bind_some]
  dsimp only
  repeat (first | rw [if_pos p1] | rw [if_pos p2] | rw [if_pos p3] | rw [if_pos p4] | rw [if_pos p5] | rw [if_pos i1])
  rw [eB, Option.bind_some]
  dsimp only
  rw [if_pos rfl, lH6]
theorem lw_7 (hL : xs.length ≤ 3072) (I : ma_INV h) (hN : 50000 < N) (hj : j + 6 ≤ xs.length) (c : xs.getD (nI j).toNatClampNeg 0 &&& 63 = 7) : ∃ g, f_307_18s xs N 0 217 (nI j, h) = some (.inl (nI (j + 6), g)) ∧ ma_INV g := by
  have p0 : pb_in (nI j) xs.length := lw_in0 (by omega) (by omega)
  have p1 : pb_in (nI j + 1) xs.length := lw_in (k := 1) (by omega) (by omega)
  have p2 : pb_in (nI j + 2) xs.length := lw_in (k := 2) (by omega) (by omega)
  have p3 : pb_in (nI j + 3) xs.length := lw_in (k := 3) (by omega) (by omega)
  have p4 : pb_in (nI j + 4) xs.length := lw_in (k := 4) (by omega) (by omega)
  have p5 : pb_in (nI j + 5) xs.length := lw_in (k := 5) (by omega) (by omega)
  have i0 := mi_0 I.1
  have e0 : ¬ (Int32.ofNat xs.length - 6 < nI j) := lw_no (by omega) hj
  unfold f_307_18s
  dsimp only
  rw [if_neg e0, if_pos p0, c, if_neg (show ¬ (7 : Int32) = 0 by decide), if_neg (show ¬ (7 : Int32) = 1 by decide), if_neg (show ¬ (7 : Int32) = 2 by decide), if_neg (show ¬ (7 : Int32) = 3 by decide), if_neg (show ¬ (7 : Int32) = 4 by decide), if_neg (show ¬ (7 : Int32) = 5 by decide), if_neg (show ¬ (7 : Int32) = 6 by decide), if_pos rfl]
  obtain ⟨x1, h1⟩ : ∃ x, xs.getD (nI j + 1).toNatClampNeg 0 = x := ⟨_, rfl⟩
  obtain ⟨x2, h2⟩ : ∃ x, xs.getD (nI j + 2).toNatClampNeg 0 = x := ⟨_, rfl⟩
  obtain ⟨x3, h3⟩ : ∃ x, xs.getD (nI j + 3).toNatClampNeg 0 = x := ⟨_, rfl⟩
  obtain ⟨x4, h4⟩ : ∃ x, xs.getD (nI j + 4).toNatClampNeg 0 = x := ⟨_, rfl⟩
  obtain ⟨r, g, g2, eA, k1, eB, k2⟩ := q_state I (N := N) (by omega) x1 x2 x3 x4
  have i1 := mi_217 (ma_H_q I.1 k1)
  dsimp only at eB
  refine ⟨g2, ?_, ma_INV_q (ma_INV_q I k1) k2⟩
  repeat (first | rw [if_pos p1] | rw [if_pos p2] | rw [if_pos p3] | rw [if_pos p4] | rw [if_pos p5] | rw [if_pos i0])
  rw [h1, h2, h3, h4, eA, Option.bind_some]
  dsimp only
  repeat (first | rw [if_pos p1] | rw [if_pos p2] | rw [if_pos p3] | rw [if_pos p4] | rw [if_pos p5] | rw [if_pos i1])
  rw [eB, Option.bind_some]
  dsimp only
  rw [if_pos rfl, lH6]
theorem lw_8 (hL : xs.length ≤ 3072) (I : ma_INV h) (hN : 50000 < N) (hj : j + 6 ≤ xs.length) (c : xs.getD (nI j).toNatClampNeg 0 &&& 63 = 8) : ∃ g, f_307_18s xs N 0 217 (nI j, h) = some (.inl (nI (j + 6), g)) ∧ ma_INV g := by
  have p0 : pb_in (nI j) xs.length := lw_in0 (by omega) (by omega)
  have p1 : pb_in (nI j + 1) xs.length := lw_in (k := 1) (by omega) (by omega)
  have p2 : pb_in (nI j + 2) xs.length := lw_in (k := 2) (by omega) (by omega)
  have p3 : pb_in (nI j + 3) xs.length := lw_in (k := 3) (by omega) (by omega)
  have p4 : pb_in (nI j + 4) xs.length := lw_in (k := 4) (by omega) (by omega)
  have p5 : pb_in (nI j + 5) xs.length := lw_in (k := 5) (by omega) (by omega)
  have i0 := mi_0 I.1
  have e0 : ¬ (Int32.ofNat xs.length - 6 < nI j) := lw_no (by omega) hj
  unfold f_307_18s
  dsimp only
  rw [if_neg e0, if_pos p0, c, if_neg (show ¬ (8 : Int32) = 0 by decide), if_neg (show ¬ (8 : Int32) = 1 by decide), if_neg (show ¬ (8 : Int32) = 2 by decide), if_neg (show ¬ (8 : Int32) = 3 by decide), if_neg (show ¬ (8 : Int32) = 4 by decide), if_neg (show ¬ (8 : Int32) = 5 by decide), if_neg (show ¬ (8 : Int32) = 6 by decide), if_neg (show ¬ (8 : Int32) = 7 by decide), if_pos rfl]
  obtain ⟨x1, h1⟩ : ∃ x, xs.getD (nI j + 1).toNatClampNeg 0 = x := ⟨_, rfl⟩
  obtain ⟨x2, h2⟩ : ∃ x, xs.getD (nI j + 2).toNatClampNeg 0 = x := ⟨_, rfl⟩
  obtain ⟨r, g, g2, eA, k1, eB, k2⟩ := q_picked I (N := N) (by omega) x1 x2
  have i1 := mi_217 (ma_H_q I.1 k1)
  dsimp only at eB
  refine ⟨g2, ?_, ma_INV_q (ma_INV_q I k1) k2⟩
  repeat (first | rw [if_pos p1] | rw [if_pos p2] | rw [if_pos p3] | rw [if_pos p4] | rw [if_pos p5] | rw [if_pos i0])
  rw [h1, h2, eA, Option.bind_some]
  dsimp only
  repeat (first | rw [if_pos p1] | rw [if_pos p2] | rw [if_pos p3] | rw [if_pos p4] | rw [if_pos p5] | rw [if_pos i1])
  rw [eB, Option.bind_some]
  dsimp only
  rw [if_pos rfl, lH6]
theorem lw_9 (hL : xs.length ≤ 3072) (I : ma_INV h) (hN : 50000 < N) (hj : j + 6 ≤ xs.length) (c : xs.getD (nI j).toNatClampNeg 0 &&& 63 = 9) : ∃ g, f_307_18s xs N 0 217 (nI j, h) = some (.inl (nI (j + 6), g)) ∧ ma_INV g := by
  have p0 : pb_in (nI j) xs.length := lw_in0 (by omega) (by omega)
  have p1 : pb_in (nI j + 1) xs.length := lw_in (k := 1) (by omega) (by omega)
  have p2 : pb_in (nI j + 2) xs.length := lw_in (k := 2) (by omega) (by omega)
  have p3 : pb_in (nI j + 3) xs.length := lw_in (k := 3) (by omega) (by omega)
  have p4 : pb_in (nI j + 4) xs.length := lw_in (k := 4) (by omega) (by omega)
  have p5 : pb_in (nI j + 5) xs.length := lw_in (k := 5) (by omega) (by omega)
  have i0 := mi_0 I.1
  have e0 : ¬ (Int32.ofNat xs.length - 6 < nI j) := lw_no (by omega) hj
  unfold f_307_18s
  dsimp only
  rw [if_neg e0, if_pos p0, c, if_neg (show ¬ (9 : Int32) = 0 by decide), if_neg (show ¬ (9 : Int32) = 1 by decide), if_neg (show ¬ (9 : Int32) = 2 by decide), if_neg (show ¬ (9 : Int32) = 3 by decide), if_neg (show ¬ (9 : Int32) = 4 by decide), if_neg (show ¬ (9 : Int32) = 5 by decide), if_neg (show ¬ (9 : Int32) = 6 by decide), if_neg (show ¬ (9 : Int32) = 7 by decide), if_neg (show ¬ (9 : Int32) = 8 by decide), if_pos rfl]
  obtain ⟨x1, h1⟩ : ∃ x, xs.getD (nI j + 1).toNatClampNeg 0 = x := ⟨_, rfl⟩
  obtain ⟨x2, h2⟩ : ∃ x, xs.getD (nI j + 2).toNatClampNeg 0 = x := ⟨_, rfl⟩
  obtain ⟨x3, h3⟩ : ∃ x, xs.getD (nI j + 3).toNatClampNeg 0 = x := ⟨_, rfl⟩
  by_cases z5 : x3 = 0
  · obtain ⟨r, g, g2, eA, k1, eB, k2⟩ := q_show I (N := N) (by omega) x1 x2 0
    have i1 := mi_217 (ma_H_q I.1 k1)
    dsimp only at eB
    refine ⟨g2, ?_, ma_INV_q (ma_INV_q I k1) k2⟩
    repeat (first | rw [if_pos p1] | rw [if_pos p2] | rw [if_pos p3] | rw [if_pos p4] | rw [if_pos p5] | rw [if_pos i0])
    rw [h1, h2, h3, if_pos z5]
    unfold f_307_569
    repeat (first | rw [if_pos p1] | rw [if_pos p2] | rw [if_pos p3] | rw [if_pos p4] | rw [if_pos p5] | rw [if_pos i0])
    rw [eA, Option.bind_some]
    dsimp only
    repeat (first | rw [if_pos p1] | rw [if_pos p2] | rw [if_pos p3] | rw [if_pos p4] | rw [if_pos p5] | rw [if_pos i1])
    rw [h1, h2, h3, if_pos z5]
    unfold f_307_596
    repeat (first | rw [if_pos p1] | rw [if_pos p2] | rw [if_pos p3] | rw [if_pos p4] | rw [if_pos p5] | rw [if_pos i1])
    rw [eB, Option.bind_some]
    dsimp only
    rw [if_pos rfl, lH6]
  · obtain ⟨r, g, g2, eA, k1, eB, k2⟩ := q_show I (N := N) (by omega) x1 x2 1
    have i1 := mi_217 (ma_H_q I.1 k1)
    dsimp only at eB
    refine ⟨g2, ?_, ma_INV_q (ma_INV_q I k1) k2⟩
    repeat (first | rw [if_pos p1] | rw [if_pos p2] | rw [if_pos p3] | rw [if_pos p4] | rw [if_pos p5] | rw [if_pos i0])
    rw [h1, h2, h3, if_neg z5]
    unfold f_307_569
    repeat (first | rw [if_pos p1] | rw [if_pos p2] | rw [if_pos p3] | rw [if_pos p4] | rw [if_pos p5] | rw [if_pos i0])
    rw [eA, Option.bind_some]
    dsimp only
    repeat (first | rw [if_pos p1] | rw [if_pos p2] | rw [if_pos p3] | rw [if_pos p4] | rw [if_pos p5] | rw [if_pos i1])
    rw [h1, h2, h3, if_neg z5]
    unfold f_307_596
    repeat (first | rw [if_pos p1] | rw [if_pos p2] | rw [if_pos p3] | rw [if_pos p4] | rw [if_pos p5] | rw [if_pos i1])
    rw [eB, Option.bind_some]
    dsimp only
    rw [if_pos rfl, lH6]
theorem lw_10 (hL : xs.length ≤ 3072) (I : ma_INV h) (hN : 50000 < N) (hj : j + 6 ≤ xs.length) (c : xs.getD (nI j).toNatClampNeg 0 &&& 63 = 10) : ∃ g, f_307_18s xs N 0 217 (nI j, h) = some (.inl (nI (j + 6), g)) ∧ ma_INV g := by
  have p0 : pb_in (nI j) xs.length := lw_in0 (by omega) (by omega)
  have p1 : pb_in (nI j + 1) xs.length := lw_in (k := 1) (by omega) (by omega)
  have p2 : pb_in (nI j + 2) xs.length := lw_in (k := 2) (by omega) (by omega)
  have p3 : pb_in (nI j + 3) xs.length := lw_in (k := 3) (by omega) (by omega)
  have p4 : pb_in (nI j + 4) xs.length := lw_in (k := 4) (by omega) (by omega)
  have p5 : pb_in (nI j + 5) xs.length := lw_in (k := 5) (by omega) (by omega)
  have i0 := mi_0 I.1
  have e0 : ¬ (Int32.ofNat xs.length - 6 < nI j) := lw_no (by omega) hj
  unfold f_307_18s
  dsimp only
  rw [if_neg e0, if_pos p0, c, if_neg (show ¬ (10 : Int32) = 0 by decide), if_neg (show ¬ (10 : Int32) = 1 by decide), if_neg (show ¬ (10 : Int32) = 2 by decide), if_neg (show ¬ (10 : Int32) = 3 by decide), if_neg (show ¬ (10 : Int32) = 4 by decide), if_neg (show ¬ (10 : Int32) = 5 by decide), if_neg (show ¬ (10 : Int32) = 6 by decide), if_neg (show ¬ (10 : Int32) = 7 by decide), if_neg (show ¬ (10 : Int32) = 8 by decide), if_neg (show ¬ (10 : Int32) = 9 by decide), if_pos rfl]
  obtain ⟨x1, h1⟩ : ∃ x, xs.getD (nI j + 1).toNatClampNeg 0 = x := ⟨_, rfl⟩
  obtain ⟨x2, h2⟩ : ∃ x, xs.getD (nI j + 2).toNatClampNeg 0 = x := ⟨_, rfl⟩
  obtain ⟨x3, h3⟩ : ∃ x, xs.getD (nI j + 3).toNatClampNeg 0 = x := ⟨_, rfl⟩
  by_cases z5 : x3 = 0
  · obtain ⟨r, g, g2, eA, k1, eB, k2⟩ := q_bench I (N := N) (by omega) x1 x2 0
    have i1 := mi_217 (ma_H_q I.1 k1)
    dsimp only at eB
    refine ⟨g2, ?_, ma_INV_q (ma_INV_q I k1) k2⟩
    repeat (first | rw [if_pos p1] | rw [if_pos p2] | rw [if_pos p3] | rw [if_pos p4] | rw [if_pos p5] | rw [if_pos i0])
    rw [h1, h2, h3, if_pos z5]
    unfold f_307_628
    repeat (first | rw [if_pos p1] | rw [if_pos p2] | rw [if_pos p3] | rw [if_pos p4] | rw [if_pos p5] | rw [if_pos i0])
    rw [eA, Option.bind_some]
    dsimp only
    repeat (first | rw [if_pos p1] | rw [if_pos p2] | rw [if_pos p3] | rw [if_pos p4] | rw [if_pos p5] | rw [if_pos i1])
    rw [h1, h2, h3, if_pos z5]
    unfold f_307_655
    repeat (first | rw [if_pos p1] | rw [if_pos p2] | rw [if_pos p3] | rw [if_pos p4] | rw [if_pos p5] | rw [if_pos i1])
    rw [eB, Option.bind_some]
    dsimp only
    rw [if_pos rfl, lH6]
  · obtain ⟨r, g, g2, eA, k1, eB, k2⟩ := q_bench I (N := N) (by omega) x1 x2 1
    have i1 := mi_217 (ma_H_q I.1 k1)
    dsimp only at eB
    refine ⟨g2, ?_, ma_INV_q (ma_INV_q I k1) k2⟩
    repeat (first | rw [if_pos p1] | rw [if_pos p2] | rw [if_pos p3] | rw [if_pos p4] | rw [if_pos p5] | rw [if_pos i0])
    rw [h1, h2, h3, if_neg z5]
    unfold f_307_628
    repeat (first | rw [if_pos p1] | rw [if_pos p2] | rw [if_pos p3] | rw [if_pos p4] | rw [if_pos p5] | rw [if_pos i0])
    rw [eA, Option.bind_some]
    dsimp only
    repeat (first | rw [if_pos p1] | rw [if_pos p2] | rw [if_pos p3] | rw [if_pos p4] | rw [if_pos p5] | rw [if_pos i1])
    rw [h1, h2, h3, if_neg z5]
    unfold f_307_655
    repeat (first | rw [if_pos p1] | rw [if_pos p2] | rw [if_pos p3] | rw [if_pos p4] | rw [if_pos p5] | rw [if_pos i1])
    rw [eB, Option.bind_some]
    dsimp only
    rw [if_pos rfl, lH6]
theorem lw_11 (hL : xs.length ≤ 3072) (I : ma_INV h) (hN : 50000 < N) (hj : j + 6 ≤ xs.length) (c : xs.getD (nI j).toNatClampNeg 0 &&& 63 = 11) : ∃ g, f_307_18s xs N 0 217 (nI j, h) = some (.inl (nI (j + 6), g)) ∧ ma_INV g := by
  have p0 : pb_in (nI j) xs.length := lw_in0 (by omega) (by omega)
  have p1 : pb_in (nI j + 1) xs.length := lw_in (k := 1) (by omega) (by omega)
  have p2 : pb_in (nI j + 2) xs.length := lw_in (k := 2) (by omega) (by omega)
  have p3 : pb_in (nI j + 3) xs.length := lw_in (k := 3) (by omega) (by omega)
  have p4 : pb_in (nI j + 4) xs.length := lw_in (k := 4) (by omega) (by omega)
  have p5 : pb_in (nI j + 5) xs.length := lw_in (k := 5) (by omega) (by omega)
  have i0 := mi_0 I.1
  have e0 : ¬ (Int32.ofNat xs.length - 6 < nI j) := lw_no (by omega) hj
  unfold f_307_18s
  dsimp only
  rw [if_neg e0, if_pos p0, c, if_neg (show ¬ (11 : Int32) = 0 by decide), if_neg (show ¬ (11 : Int32) = 1 by decide), if_neg (show ¬ (11 : Int32) = 2 by decide), if_neg (show ¬ (11 : Int32) = 3 by decide), if_neg (show ¬ (11 : Int32) = 4 by decide), if_neg (show ¬ (11 : Int32) = 5 by decide), if_neg (show ¬ (11 : Int32) = 6 by decide), if_neg (show ¬ (11 : Int32) = 7 by decide), if_neg (show ¬ (11 : Int32) = 8 by decide), if_neg (show ¬ (11 : Int32) = 9 by decide), if_neg (show ¬ (11 : Int32) = 10 by decide), if_pos rfl]
  obtain ⟨x1, h1⟩ : ∃ x, xs.getD (nI j + 1).toNatClampNeg 0 = x := ⟨_, rfl⟩
  obtain ⟨x2, h2⟩ : ∃ x, xs.getD (nI j + 2).toNatClampNeg 0 = x := ⟨_, rfl⟩
  obtain ⟨x3, h3⟩ : ∃ x, xs.getD (nI j + 3).toNatClampNeg 0 = x := ⟨_, rfl⟩
  by_cases z5 : x3 = 0
  · obtain ⟨r, g, g2, eA, k1, eB, k2⟩ := q_power I (N := N) (by omega) x1 x2 0
    have i1 := mi_217 (ma_H_q I.1 k1)
    dsimp only at eB
    refine ⟨g2, ?_, ma_INV_q (ma_INV_q I k1) k2⟩
    repeat (first | rw [if_pos p1] | rw [if_pos p2] | rw [if_pos p3] | rw [if_pos p4] | rw [if_pos p5] | rw [if_pos i0])
    rw [h1, h2, h3, if_pos z5]
    unfold f_307_687
    repeat (first | rw [if_pos p1] | rw [if_pos p2] | rw [if_pos p3] | rw [if_pos p4] | rw [if_pos p5] | rw [if_pos i0])
    rw [eA, Option.bind_some]
    dsimp only
    repeat (first | rw [if_pos p1] | rw [if_pos p2] | rw [if_pos p3] | rw [if_pos p4] | rw [if_pos p5] | rw [if_pos i1])
    rw [h1, h2, h3, if_pos z5]
    unfold f_307_714
    repeat (first | rw [if_pos p1] | rw [if_pos p2] | rw [if_pos p3] | rw [if_pos p4] | rw [if_pos p5] | rw [if_pos i1])
    rw [eB, Option.bind_some]
    dsimp only
    rw [if_pos ((tx_cmp _ _).mpr rfl), lH6]
  · obtain ⟨r, g, g2, eA, k1, eB, k2⟩ := q_power I (N := N) (by omega) x1 x2 1
    have i1 := mi_217 (ma_H_q I.1 k1)
    dsimp only at eB
    refine ⟨g2, ?_, ma_INV_q (ma_INV_q I k1) k2⟩
    repeat (first | rw [if_pos p1] | rw [if_pos p2] | rw [if_pos p3] | rw [if_pos p4] | rw [if_pos p5] | rw [if_pos i0])
    rw [h1, h2, h3, if_neg z5]
    unfold f_307_687
    repeat (first | rw [if_pos p1] | rw [if_pos p2] | rw [if_pos p3] | rw [if_pos p4] | rw [if_pos p5] | rw [if_pos i0])
    rw [eA, Option.bind_some]
    dsimp only
    repeat (first | rw [if_pos p1] | rw [if_pos p2] | rw [if_pos p3] | rw [if_pos p4] | rw [if_pos p5] | rw [if_pos i1])
    rw [h1, h2, h3, if_neg z5]
    unfold f_307_714
    repeat (first | rw [if_pos p1] | rw [if_pos p2] | rw [if_pos p3] | rw [if_pos p4] | rw [if_pos p5] | rw [if_pos i1])
    rw [eB, Option.bind_some]
    dsimp only
    rw [if_pos ((tx_cmp _ _).mpr rfl), lH6]
theorem lw_12 (hL : xs.length ≤ 3072) (I : ma_INV h) (hN : 50000 < N) (hj : j + 6 ≤ xs.length) (c : xs.getD (nI j).toNatClampNeg 0 &&& 63 = 12) : ∃ g, f_307_18s xs N 0 217 (nI j, h) = some (.inl (nI (j + 6), g)) ∧ ma_INV g := by
  have p0 : pb_in (nI j) xs.length := lw_in0 (by omega) (by omega)
  have p1 : pb_in (nI j + 1) xs.length := lw_in (k := 1) (by omega) (by omega)
  have p2 : pb_in (nI j + 2) xs.length := lw_in (k := 2) (by omega) (by omega)
  have p3 : pb_in (nI j + 3) xs.length := lw_in (k := 3) (by omega) (by omega)
  have p4 : pb_in (nI j + 4) xs.length := lw_in (k := 4) (by omega) (by omega)
  have p5 : pb_in (nI j + 5) xs.length := lw_in (k := 5) (by omega) (by omega)
  have i0 := mi_0 I.1
  have e0 : ¬ (Int32.ofNat xs.length - 6 < nI j) := lw_no (by omega) hj
  unfold f_307_18s
  dsimp only
  rw [if_neg e0, if_pos p0, c, if_neg (show ¬ (12 : Int32) = 0 by decide), if_neg (show ¬ (12 : Int32) = 1 by decide), if_neg (show ¬ (12 : Int32) = 2 by decide), if_neg (show ¬ (12 : Int32) = 3 by decide), if_neg (show ¬ (12 : Int32) = 4 by decide), if_neg (show ¬ (12 : Int32) = 5 by decide), if_neg (show ¬ (12 : Int32) = 6 by decide), if_neg (show ¬ (12 : Int32) = 7 by decide), if_neg (show ¬ (12 : Int32) = 8 by decide), if_neg (show ¬ (12 : Int32) = 9 by decide), if_neg (show ¬ (12 : Int32) = 10 by decide), if_neg (show ¬ (12 : Int32) = 11 by decide), if_pos rfl]
  obtain ⟨x1, h1⟩ : ∃ x, xs.getD (nI j + 1).toNatClampNeg 0 = x := ⟨_, rfl⟩
  obtain ⟨x2, h2⟩ : ∃ x, xs.getD (nI j + 2).toNatClampNeg 0 = x := ⟨_, rfl⟩
  by_cases z5 : x2 = 0
  · obtain ⟨r, g, g2, eA, k1, eB, k2⟩ := q_ban I (N := N) (by omega) x1 0
    have i1 := mi_217 (ma_H_q I.1 k1)
    dsimp only at eB
    refine ⟨g2, ?_, ma_INV_q (ma_INV_q I k1) k2⟩
    repeat (first | rw [if_pos p1] | rw [if_pos p2] | rw [if_pos p3] | rw [if_pos p4] | rw [if_pos p5] | rw [if_pos i0])
    rw [h1, h2, if_pos z5]
    unfold f_307_742
    repeat (first | rw [if_pos p1] | rw [if_pos p2] | rw [if_pos p3] | rw [if_pos p4] | rw [if_pos p5] | rw [if_pos i0])
    rw [eA, Option.bind_some]
    dsimp only
    repeat (first | rw [if_pos p1] | rw [if_pos p2] | rw [if_pos p3] | rw [if_pos p4] | rw [if_pos p5] | rw [if_pos i1])
    rw [h1, h2, if_pos z5]
    unfold f_307_764
    repeat (first | rw [if_pos p1] | rw [if_pos p2] | rw [if_pos p3] | rw [if_pos p4] | rw [if_pos p5] | rw [if_pos i1])
    rw [eB, Option.bind_some]
    dsimp only
    rw [if_pos rfl, lH6]
  · obtain ⟨r, g, g2, eA, k1, eB, k2⟩ := q_ban I (N := N) (by omega) x1 1
    have i1 := mi_217 (ma_H_q I.1 k1)
    dsimp only at eB
    refine ⟨g2, ?_, ma_INV_q (ma_INV_q I k1) k2⟩
    repeat (first | rw [if_pos p1] | rw [if_pos p2] | rw [if_pos p3] | rw [if_pos p4] | rw [if_pos p5] | rw [if_pos i0])
    rw [h1, h2, if_neg z5]
    unfold f_307_742
    repeat (first | rw [if_pos p1] | rw [if_pos p2] | rw [if_pos p3] | rw [if_pos p4] | rw [if_pos p5] | rw [if_pos i0])
    rw [eA, Option.bind_some]
    dsimp only
    repeat (first | rw [if_pos p1] | rw [if_pos p2] | rw [if_pos p3] | rw [if_pos p4] | rw [if_pos p5] | rw [if_pos i1])
    rw [h1, h2, if_neg z5]
    unfold f_307_764
    repeat (first | rw [if_pos p1] | rw [if_pos p2] | rw [if_pos p3] | rw [if_pos p4] | rw [if_pos p5] | rw [if_pos i1])
    rw [eB, Option.bind_some]
    dsimp only
    rw [if_pos rfl, lH6]
theorem lw_13 (hL : xs.length ≤ 3072) (I : ma_INV h) (hN : 50000 < N) (hj : j + 6 ≤ xs.length) (c : xs.getD (nI j).toNatClampNeg 0 &&& 63 = 13) : ∃ g, f_307_18s xs N 0 217 (nI j, h) = some (.inl (nI (j + 6), g)) ∧ ma_INV g := by
  have p0 : pb_in (nI j) xs.length := lw_in0 (by omega) (by omega)
  have p1 : pb_in (nI j + 1) xs.length := lw_in (k := 1) (by omega) (by omega)
  have p2 : pb_in (nI j + 2) xs.length := lw_in (k := 2) (by omega) (by omega)
  have p3 : pb_in (nI j + 3) xs.length := lw_in (k := 3) (by omega) (by omega)
  have p4 : pb_in (nI j + 4) xs.length := lw_in (k := 4) (by omega) (by omega)
  have p5 : pb_in (nI j + 5) xs.length := lw_in (k := 5) (by omega) (by omega)
  have i0 := mi_0 I.1
  have e0 : ¬ (Int32.ofNat xs.length - 6 < nI j) := lw_no (by omega) hj
  unfold f_307_18s
  dsimp only
  rw [if_neg e0, if_pos p0, c, if_neg (show ¬ (13 : Int32) = 0 by decide), if_neg (show ¬ (13 : Int32) = 1 by decide), if_neg (show ¬ (13 : Int32) = 2 by decide), if_neg (show ¬ (13 : Int32) = 3 by decide), if_neg (show ¬ (13 : Int32) = 4 by decide), if_neg (show ¬ (13 : Int32) = 5 by decide), if_neg (show ¬ (13 : Int32) = 6 by decide), if_neg (show ¬ (13 : Int32) = 7 by decide), if_neg (show ¬ (13 : Int32) = 8 by decide), if_neg (show ¬ (13 : Int32) = 9 by decide), if_neg (show ¬ (13 : Int32) = 10 by decide), if_neg (show ¬ (13 : Int32) = 11 by decide), if_neg (show ¬ (13 : Int32) = 12 by decide), if_pos rfl]
  obtain ⟨x1, h1⟩ : ∃ x, xs.getD (nI j + 1).toNatClampNeg 0 = x := ⟨_, rfl⟩
  obtain ⟨x2, h2⟩ : ∃ x, xs.getD (nI j + 2).toNatClampNeg 0 = x := ⟨_, rfl⟩
  obtain ⟨x3, h3⟩ : ∃ x, xs.getD (nI j + 3).toNatClampNeg 0 = x := ⟨_, rfl⟩
  obtain ⟨x4, h4⟩ : ∃ x, xs.getD (nI j + 4).toNatClampNeg 0 = x := ⟨_, rfl⟩
  obtain ⟨x5, h5⟩ : ∃ x, xs.getD (nI j + 5).toNatClampNeg 0 = x := ⟨_, rfl⟩
  by_cases z5 : x5 = 0
  · obtain ⟨r, g, g2, eA, k1, eB, k2⟩ := q_rivals I (N := N) (by omega) x1 x2 x3 x4 0
    have i1 := mi_217 (ma_H_q I.1 k1)
    dsimp only at eB
    refine ⟨g2, ?_, ma_INV_q (ma_INV_q I k1) k2⟩
    repeat (first | rw [if_pos p1] | rw [if_pos p2] | rw [if_pos p3] | rw [if_pos p4] | rw [if_pos p5] | rw [if_pos i0])
    rw [h1, h2, h3, h4, h5, if_pos z5]
    unfold f_307_806
    repeat (first | rw [if_pos p1] | rw [if_pos p2] | rw [if_pos p3] | rw [if_pos p4] | rw [if_pos p5] | rw [if_pos i0])
    rw [eA, Option.bind_some]
    dsimp only
    repeat (first | rw [if_pos p1] | rw [if_pos p2] | rw [if_pos p3] | rw [if_pos p4] | rw [if_pos p5] | rw [if_pos i1])
    rw [h1, h2, h3, h4, h5, if_pos z5]
    unfold f_307_843
    repeat (first | rw [if_pos p1] | rw [if_pos p2] | rw [if_pos p3] | rw [if_pos p4] | rw [if_pos p5] | rw [if_pos i1])
    rw [eB, Option.bind_some]
    dsimp only
    rw [if_pos rfl, lH6]
  · obtain ⟨r, g, g2, eA, k1, eB, k2⟩ := q_rivals I (N := N) (by omega) x1 x2 x3 x4 1
    have i1 := mi_217 (ma_H_q I.1 k1)
    dsimp only at eB
    refine ⟨g2, ?_, ma_INV_q (ma_INV_q I k1) k2⟩
    repeat (first | rw [if_pos p1] | rw [if_pos p2] | rw [if_pos p3] | rw [if_pos p4] | rw [if_pos p5] | rw [if_pos i0])
    rw [h1, h2, h3, h4, h5, if_neg z5]
    unfold f_307_806
    repeat (first | rw [if_pos p1] | rw [if_pos p2] | rw [if_pos p3] | rw [if_pos p4] | rw [if_pos p5] | rw [if_pos i0])
    rw [eA, Option.bind_some]
    dsimp only
    repeat (first | rw [if_pos p1] | rw [if_pos p2] | rw [if_pos p3] | rw [if_pos p4] | rw [if_pos p5] | rw [if_pos i1])
    rw [h1, h2, h3, h4, h5, if_neg z5]
    unfold f_307_843
    repeat (first | rw [if_pos p1] | rw [if_pos p2] | rw [if_pos p3] | rw [if_pos p4] | rw [if_pos p5] | rw [if_pos i1])
    rw [eB, Option.bind_some]
    dsimp only
    rw [if_pos rfl, lH6]
theorem lw_14 (hL : xs.length ≤ 3072) (I : ma_INV h) (hN : 50000 < N) (hj : j + 6 ≤ xs.length) (c : xs.getD (nI j).toNatClampNeg 0 &&& 63 = 14) : ∃ g, f_307_18s xs N 0 217 (nI j, h) = some (.inl (nI (j + 6), g)) ∧ ma_INV g := by
  have p0 : pb_in (nI j) xs.length := lw_in0 (by omega) (by omega)
  have p1 : pb_in (nI j + 1) xs.length := lw_in (k := 1) (by omega) (by omega)
  have p2 : pb_in (nI j + 2) xs.length := lw_in (k := 2) (by omega) (by omega)
  have p3 : pb_in (nI j + 3) xs.length := lw_in (k := 3) (by omega) (by omega)
  have p4 : pb_in (nI j + 4) xs.length := lw_in (k := 4) (by omega) (by omega)
  have p5 : pb_in (nI j + 5) xs.length := lw_in (k := 5) (by omega) (by omega)
  have i0 := mi_0 I.1
  have e0 : ¬ (Int32.ofNat xs.length - 6 < nI j) := lw_no (by omega) hj
  unfold f_307_18s
  dsimp only
  rw [if_neg e0, if_pos p0, c, if_neg (show ¬ (14 : Int32) = 0 by decide), if_neg (show ¬ (14 : Int32) = 1 by decide), if_neg (show ¬ (14 : Int32) = 2 by decide), if_neg (show ¬ (14 : Int32) = 3 by decide), if_neg (show ¬ (14 : Int32) = 4 by decide), if_neg (show ¬ (14 : Int32) = 5 by decide), if_neg (show ¬ (14 : Int32) = 6 by decide), if_neg (show ¬ (14 : Int32) = 7 by decide), if_neg (show ¬ (14 : Int32) = 8 by decide), if_neg (show ¬ (14 : Int32) = 9 by decide), if_neg (show ¬ (14 : Int32) = 10 by decide), if_neg (show ¬ (14 : Int32) = 11 by decide), if_neg (show ¬ (14 : Int32) = 12 by decide), if_neg (show ¬ (14 : Int32) = 13 by decide), if_pos rfl]
  obtain ⟨x1, h1⟩ : ∃ x, xs.getD (nI j + 1).toNatClampNeg 0 = x := ⟨_, rfl⟩
  obtain ⟨x2, h2⟩ : ∃ x, xs.getD (nI j + 2).toNatClampNeg 0 = x := ⟨_, rfl⟩
  obtain ⟨x3, h3⟩ : ∃ x, xs.getD (nI j + 3).toNatClampNeg 0 = x := ⟨_, rfl⟩
  obtain ⟨x4, h4⟩ : ∃ x, xs.getD (nI j + 4).toNatClampNeg 0 = x := ⟨_, rfl⟩
  obtain ⟨x5, h5⟩ : ∃ x, xs.getD (nI j + 5).toNatClampNeg 0 = x := ⟨_, rfl⟩
  by_cases z4 : x4 = 0
  · by_cases z5 : x5 = 0
    · obtain ⟨r, g2, eA, eB, k2⟩ := q_quiet I (N := N) (by omega) x1 x2 x3 0 0
      have i1 := mi_217 I.1
      dsimp only at eB
      refine ⟨g2, ?_, ma_INV_q I k2⟩
      repeat (first | rw [if_pos p1] | rw [if_pos p2] | rw [if_pos p3] | rw [if_pos p4] | rw [if_pos p5] | rw [if_pos i0])
      rw [h1, h2, h3, h4, if_pos z4]
      unfold f_307_880
      repeat (first | rw [if_pos p1] | rw [if_pos p2] | rw [if_pos p3] | rw [if_pos p4] | rw [if_pos p5] | rw [if_pos i0])
      rw [h5, if_pos z5]
      unfold f_307_893
      repeat (first | rw [if_pos p1] | rw [if_pos p2] | rw [if_pos p3] | rw [if_pos p4] | rw [if_pos p5] | rw [if_pos i0])
      rw [eA, Option.bind_some]
      repeat (first | rw [if_pos p1] | rw [if_pos p2] | rw [if_pos p3] | rw [if_pos p4] | rw [if_pos p5] | rw [if_pos i1])
      rw [h1, h2, h3, h4, if_pos z4]
      unfold f_307_925
      repeat (first | rw [if_pos p1] | rw [if_pos p2] | rw [if_pos p3] | rw [if_pos p4] | rw [if_pos p5] | rw [if_pos i1])
      rw [h5, if_pos z5]
      unfold f_307_938
      repeat (first | rw [if_pos p1] | rw [if_pos p2] | rw [if_pos p3] | rw [if_pos p4] | rw [if_pos p5] | rw [if_pos i1])
      rw [eB, Option.bind_some]
      dsimp only
      rw [if_pos ((tx_cmp _ _).mpr rfl), lH6]
    · obtain ⟨r, g2, eA, eB, k2⟩ := q_quiet I (N := N) (by omega) x1 x2 x3 0 1
      have i1 := mi_217 I.1
      dsimp only at eB
      refine ⟨g2, ?_, ma_INV_q I k2⟩
      repeat (first | rw [if_pos p1] | rw [if_pos p2] | rw [if_pos p3] | rw [if_pos p4] | rw [if_pos p5] | rw [if_pos i0])
      rw [h1, h2, h3, h4, if_pos z4]
      unfold f_307_880
      repeat (first | rw [if_pos p1] | rw [if_pos p2] | rw [if_pos p3] | rw [if_pos p4] | rw [if_pos p5] | rw [if_pos i0])
      rw [h5, if_neg z5]
      unfold f_307_893
      repeat (first | rw [if_pos p1] | rw [if_pos p2] | rw [if_pos p3] | rw [if_pos p4] | rw [if_pos p5] | rw [if_pos i0])
      rw [eA, Option.bind_some]
      repeat (first | rw [if_pos p1] | rw [if_pos p2] | rw [if_pos p3] | rw [if_pos p4] | rw [if_pos p5] | rw [if_pos i1])
      rw [h1, h2, h3, h4, if_pos z4]
      unfold f_307_925
      repeat (first | rw [if_pos p1] | rw [if_pos p2] | rw [if_pos p3] | rw [if_pos p4] | rw [if_pos p5] | rw [if_pos i1])
      rw [h5, if_neg z5]
      unfold f_307_938
      repeat (first | rw [if_pos p1] | rw [if_pos p2] | rw [if_pos p3] | rw [if_pos p4] | rw [if_pos p5] | rw [if_pos i1])
      rw [eB, Option.bind_some]
      dsimp only
      rw [if_pos ((tx_cmp _ _).mpr rfl), lH6]
  · by_cases z5 : x5 = 0
    · obtain ⟨r, g2, eA, eB, k2⟩ := q_quiet I (N := N) (by omega) x1 x2 x3 1 0
      have i1 := mi_217 I.1
      dsimp only at eB
      refine ⟨g2, ?_, ma_INV_q I k2⟩
      repeat (first | rw [if_pos p1] | rw [if_pos p2] | rw [if_pos p3] | rw [if_pos p4] | rw [if_pos p5] | rw [if_pos i0])
      rw [h1, h2, h3, h4, if_neg z4]
      unfold f_307_880
      repeat (first | rw [if_pos p1] | rw [if_pos p2] | rw [if_pos p3] | rw [if_pos p4] | rw [if_pos p5] | rw [if_pos i0])
      rw [h5, if_pos z5]
      unfold f_307_893
      repeat (first | rw [if_pos p1] | rw [if_pos p2] | rw [if_pos p3] | rw [if_pos p4] | rw [if_pos p5] | rw [if_pos i0])
      rw [eA, Option.bind_some]
      repeat (first | rw [if_pos p1] | rw [if_pos p2] | rw [if_pos p3] | rw [if_pos p4] | rw [if_pos p5] | rw [if_pos i1])
      rw [h1, h2, h3, h4, if_neg z4]
      unfold f_307_925
      repeat (first | rw [if_pos p1] | rw [if_pos p2] | rw [if_pos p3] | rw [if_pos p4] | rw [if_pos p5] | rw [if_pos i1])
      rw [h5, if_pos z5]
      unfold f_307_938
      repeat (first | rw [if_pos p1] | rw [if_pos p2] | rw [if_pos p3] | rw [if_pos p4] | rw [if_pos p5] | rw [if_pos i1])
      rw [eB, Option.bind_some]
      dsimp only
      rw [if_pos ((tx_cmp _ _).mpr rfl), lH6]
    · obtain ⟨r, g2, eA, eB, k2⟩ := q_quiet I (N := N) (by omega) x1 x2 x3 1 1
      have i1 := mi_217 I.1
      dsimp only at eB
      refine ⟨g2, ?_, ma_INV_q I k2⟩
      repeat (first | rw [if_pos p1] | rw [if_pos p2] | rw [if_pos p3] | rw [if_pos p4] | rw [if_pos p5] | rw [if_pos i0])
      rw [h1, h2, h3, h4, if_neg z4]
      unfold f_307_880
      repeat (first | rw [if_pos p1] | rw [if_pos p2] | rw [if_pos p3] | rw [if_pos p4] | rw [if_pos p5] | rw [if_pos i0])
      rw [h5, if_neg z5]
      unfold f_307_893
      repeat (first | rw [if_pos p1] | rw [if_pos p2] | rw [if_pos p3] | rw [if_pos p4] | rw [if_pos p5] | rw [if_pos i0])
      rw [eA, Option.bind_some]
      repeat (first | rw [if_pos p1] | rw [if_pos p2] | rw [if_pos p3] | rw [if_pos p4] | rw [if_pos p5] | rw [if_pos i1])
      rw [h1, h2, h3, h4, if_neg z4]
      unfold f_307_925
      repeat (first | rw [if_pos p1] | rw [if_pos p2] | rw [if_pos p3] | rw [if_pos p4] | rw [if_pos p5] | rw [if_pos i1])
      rw [h5, if_neg z5]
      unfold f_307_938
      repeat (first | rw [if_pos p1] | rw [if_pos p2] | rw [if_pos p3] | rw [if_pos p4] | rw [if_pos p5] | rw [if_pos i1])
      rw [eB, Option.bind_some]
      dsimp only
      rw [if_pos ((tx_cmp _ _).mpr rfl), lH6]
theorem lw_15 (hL : xs.length ≤ 3072) (I : ma_INV h) (hN : 50000 < N) (hj : j + 6 ≤ xs.length) (c : xs.getD (nI j).toNatClampNeg 0 &&& 63 = 15) : ∃ g, f_307_18s xs N 0 217 (nI j, h) = some (.inl (nI (j + 6), g)) ∧ ma_INV g := by
  have p0 : pb_in (nI j) xs.length := lw_in0 (by omega) (by omega)
  have p1 : pb_in (nI j + 1) xs.length := lw_in (k := 1) (by omega) (by omega)
  have p2 : pb_in (nI j + 2) xs.length := lw_in (k := 2) (by omega) (by omega)
  have p3 : pb_in (nI j + 3) xs.length := lw_in (k := 3) (by omega) (by omega)
  have p4 : pb_in (nI j + 4) xs.length := lw_in (k := 4) (by omega) (by omega)
  have p5 : pb_in (nI j + 5) xs.length := lw_in (k := 5) (by omega) (by omega)
  have i0 := mi_0 I.1
  have e0 : ¬ (Int32.ofNat xs.length - 6 < nI j) := lw_no (by omega) hj
  unfold f_307_18s
  dsimp only
  rw [if_neg e0, if_pos p0, c, if_neg (show ¬ (15 : Int32) = 0 by decide), if_neg (show ¬ (15 : Int32) = 1 by decide), if_neg (show ¬ (15 : Int32) = 2 by decide), if_neg (show ¬ (15 : Int32) = 3 by decide), if_neg (show ¬ (15 : Int32) = 4 by decide), if_neg (show ¬ (15 : Int32) = 5 by decide), if_neg (show ¬ (15 : Int32) = 6 by decide), if_neg (show ¬ (15 : Int32) = 7 by decide), if_neg (show ¬ (15 : Int32) = 8 by decide), if_neg (show ¬ (15 : Int32) = 9 by decide), if_neg (show ¬ (15 : Int32) = 10 by decide), if_neg (show ¬ (15 : Int32) = 11 by decide), if_neg (show ¬ (15 : Int32) = 12 by decide), if_neg (show ¬ (15 : Int32) = 13 by decide), if_neg (show ¬ (15 : Int32) = 14 by decide), if_pos rfl]
  obtain ⟨x1, h1⟩ : ∃ x, xs.getD (nI j + 1).toNatClampNeg 0 = x := ⟨_, rfl⟩
  obtain ⟨x2, h2⟩ : ∃ x, xs.getD (nI j + 2).toNatClampNeg 0 = x := ⟨_, rfl⟩
  obtain ⟨x3, h3⟩ : ∃ x, xs.getD (nI j + 3).toNatClampNeg 0 = x := ⟨_, rfl⟩
  obtain ⟨r, g2, eA, eB, k2⟩ := q_fact I x1 x2 x3
  have i1 := mi_217 I.1
  dsimp only at eB
  refine ⟨g2, ?_, ma_INV_q I k2⟩
  repeat (first | rw [if_pos p1] | rw [if_pos p2] | rw [if_pos p3] | rw [if_pos p4] | rw [if_pos p5] | rw [if_pos i0])
  rw [h1, h2, h3, eA, Option.bind_some]
  repeat (first | rw [if_pos p1] | rw [if_pos p2] | rw [if_pos p3] | rw [if_pos p4] | rw [if_pos p5] | rw [if_pos i1])
  rw [eB, Option.bind_some]
  dsimp only
  rw [if_pos rfl, lH6]
theorem lw_16 (hL : xs.length ≤ 3072) (I : ma_INV h) (hN : 50000 < N) (hj : j + 6 ≤ xs.length) (c : xs.getD (nI j).toNatClampNeg 0 &&& 63 = 16) : ∃ g, f_307_18s xs N 0 217 (nI j, h) = some (.inl (nI (j + 6), g)) ∧ ma_INV g := by
  have p0 : pb_in (nI j) xs.length := lw_in0 (by omega) (by omega)
  have p1 : pb_in (nI j + 1) xs.length := lw_in (k := 1) (by omega) (by omega)
  have p2 : pb_in (nI j + 2) xs.length := lw_in (k := 2) (by omega) (by omega)
  have p3 : pb_in (nI j + 3) xs.length := lw_in (k := 3) (by omega) (by omega)
  have p4 : pb_in (nI j + 4) xs.length := lw_in (k := 4) (by omega) (by omega)
  have p5 : pb_in (nI j + 5) xs.length := lw_in (k := 5) (by omega) (by omega)
  have i0 := mi_0 I.1
  have e0 : ¬ (Int32.ofNat xs.length - 6 < nI j) := lw_no (by omega) hj
  unfold f_307_18s
  dsimp only
  rw [if_neg e0, if_pos p0, c, if_neg (show ¬ (16 : Int32) = 0 by decide), if_neg (show ¬ (16 : Int32) = 1 by decide), if_neg (show ¬ (16 : Int32) = 2 by decide), if_neg (show ¬ (16 : Int32) = 3 by decide), if_neg (show ¬ (16 : Int32) = 4 by decide), if_neg (show ¬ (16 : Int32) = 5 by decide), if_neg (show ¬ (16 : Int32) = 6 by decide), if_neg (show ¬ (16 : Int32) = 7 by decide), if_neg (show ¬ (16 : Int32) = 8 by decide), if_neg (show ¬ (16 : Int32) = 9 by decide), if_neg (show ¬ (16 : Int32) = 10 by decide), if_neg (show ¬ (16 : Int32) = 11 by decide), if_neg (show ¬ (16 : Int32) = 12 by decide), if_neg (show ¬ (16 : Int32) = 13 by decide), if_neg (show ¬ (16 : Int32) = 14 by decide), if_neg (show ¬ (16 : Int32) = 15 by decide), if_pos rfl]
  obtain ⟨x1, h1⟩ : ∃ x, xs.getD (nI j + 1).toNatClampNeg 0 = x := ⟨_, rfl⟩
  obtain ⟨x2, h2⟩ : ∃ x, xs.getD (nI j + 2).toNatClampNeg 0 = x := ⟨_, rfl⟩
  obtain ⟨r, g, g2, eA, k1, eB, k2⟩ := q_fits I (N := N) (by omega) x1 x2
  have i1 := mi_217 (ma_H_q I.1 k1)
  dsimp only at eB
  refine ⟨g2, ?_, ma_INV_q (ma_INV_q I k1) k2⟩
  repeat (first | rw [if_pos p1] | rw [if_pos p2] | rw [if_pos p3] | rw [if_pos p4] | rw [if_pos p5] | rw [if_pos i0])
  rw [h1, h2, eA, Option.bind_some]
  dsimp only
  repeat (first | rw [if_pos p1] | rw [if_pos p2] | rw [if_pos p3] | rw [if_pos p4] | rw [if_pos p5] | rw [if_pos i1])
  rw [eB, Option.bind_some]
  dsimp only
  rw [if_pos rfl, lH6]
theorem lw_17 (hL : xs.length ≤ 3072) (I : ma_INV h) (hN : 50000 < N) (hj : j + 6 ≤ xs.length) (c : xs.getD (nI j).toNatClampNeg 0 &&& 63 = 17) : ∃ g, f_307_18s xs N 0 217 (nI j, h) = some (.inl (nI (j + 6), g)) ∧ ma_INV g := by
  have p0 : pb_in (nI j) xs.length := lw_in0 (by omega) (by omega)
  have p1 : pb_in (nI j + 1) xs.length := lw_in (k := 1) (by omega) (by omega)
  have p2 : pb_in (nI j + 2) xs.length := lw_in (k := 2) (by omega) (by omega)
  have p3 : pb_in (nI j + 3) xs.length := lw_in (k := 3) (by omega) (by omega)
  have p4 : pb_in (nI j + 4) xs.length := lw_in (k := 4) (by omega) (by omega)
  have p5 : pb_in (nI j + 5) xs.length := lw_in (k := 5) (by omega) (by omega)
  have i0 := mi_0 I.1
  have e0 : ¬ (Int32.ofNat xs.length - 6 < nI j) := lw_no (by omega) hj
  unfold f_307_18s
  dsimp only
  rw [if_neg e0, if_pos p0, c, if_neg (show ¬ (17 : Int32) = 0 by decide), if_neg (show ¬ (17 : Int32) = 1 by decide), if_neg (show ¬ (17 : Int32) = 2 by decide), if_neg (show ¬ (17 : Int32) = 3 by decide), if_neg (show ¬ (17 : Int32) = 4 by decide), if_neg (show ¬ (17 : Int32) = 5 by decide), if_neg (show ¬ (17 : Int32) = 6 by decide), if_neg (show ¬ (17 : Int32) = 7 by decide), if_neg (show ¬ (17 : Int32) = 8 by decide), if_neg (show ¬ (17 : Int32) = 9 by decide), if_neg (show ¬ (17 : Int32) = 10 by decide), if_neg (show ¬ (17 : Int32) = 11 by decide), if_neg (show ¬ (17 : Int32) = 12 by decide), if_neg (show ¬ (17 : Int32) = 13 by decide), if_neg (show ¬ (17 : Int32) = 14 by decide), if_neg (show ¬ (17 : Int32) = 15 by decide), if_neg (show ¬ (17 : Int32) = 16 by decide), if_pos rfl]
  obtain ⟨x1, h1⟩ : ∃ x, xs.getD (nI j + 1).toNatClampNeg 0 = x := ⟨_, rfl⟩
  obtain ⟨x2, h2⟩ : ∃ x, xs.getD (nI j + 2).toNatClampNeg 0 = x := ⟨_, rfl⟩
  obtain ⟨x3, h3⟩ : ∃ x, xs.getD (nI j + 3).toNatClampNeg 0 = x := ⟨_, rfl⟩
  obtain ⟨x4, h4⟩ : ∃ x, xs.getD (nI j + 4).toNatClampNeg 0 = x := ⟨_, rfl⟩
  obtain ⟨r, g, g2, eA, k1, eB, k2⟩ := q_drawn I (N := N) (by omega) x1 x2 x3 x4
  have i1 := mi_217 (ma_H_q I.1 k1)
  dsimp only at eB
  refine ⟨g2, ?_, ma_INV_q (ma_INV_q I k1) k2⟩
  repeat (first | rw [if_pos p1] | rw [if_pos p2] | rw [if_pos p3] | rw [if_pos p4] | rw [if_pos p5] | rw [if_pos i0])
  rw [h1, h2, h3, h4, eA, Option.bind_some]
  dsimp only
  repeat (first | rw [if_pos p1] | rw [if_pos p2] | rw [if_pos p3] | rw [if_pos p4] | rw [if_pos p5] | rw [if_pos i1])
  rw [eB, Option.bind_some]
  dsimp only
  rw [if_pos rfl, lH6]
theorem lw_18 (hL : xs.length ≤ 3072) (I : ma_INV h) (hN : 50000 < N) (hj : j + 6 ≤ xs.length) (c : xs.getD (nI j).toNatClampNeg 0 &&& 63 = 18) : ∃ g, f_307_18s xs N 0 217 (nI j, h) = some (.inl (nI (j + 6), g)) ∧ ma_INV g := by
  have p0 : pb_in (nI j) xs.length := lw_in0 (by omega) (by omega)
  have p1 : pb_in (nI j + 1) xs.length := lw_in (k := 1) (by omega) (by omega)
  have p2 : pb_in (nI j + 2) xs.length := lw_in (k := 2) (by omega) (by omega)
  have p3 : pb_in (nI j + 3) xs.length := lw_in (k := 3) (by omega) (by omega)
  have p4 : pb_in (nI j + 4) xs.length := lw_in (k := 4) (by omega) (by omega)
  have p5 : pb_in (nI j + 5) xs.length := lw_in (k := 5) (by omega) (by omega)
  have i0 := mi_0 I.1
  have e0 : ¬ (Int32.ofNat xs.length - 6 < nI j) := lw_no (by omega) hj
  unfold f_307_18s
  dsimp only
  rw [if_neg e0, if_pos p0, c, if_neg (show ¬ (18 : Int32) = 0 by decide), if_neg (show ¬ (18 : Int32) = 1 by decide), if_neg (show ¬ (18 : Int32) = 2 by decide), if_neg (show ¬ (18 : Int32) = 3 by decide), if_neg (show ¬ (18 : Int32) = 4 by decide), if_neg (show ¬ (18 : Int32) = 5 by decide), if_neg (show ¬ (18 : Int32) = 6 by decide), if_neg (show ¬ (18 : Int32) = 7 by decide), if_neg (show ¬ (18 : Int32) = 8 by decide), if_neg (show ¬ (18 : Int32) = 9 by decide), if_neg (show ¬ (18 : Int32) = 10 by decide), if_neg (show ¬ (18 : Int32) = 11 by decide), if_neg (show ¬ (18 : Int32) = 12 by decide), if_neg (show ¬ (18 : Int32) = 13 by decide), if_neg (show ¬ (18 : Int32) = 14 by decide), if_neg (show ¬ (18 : Int32) = 15 by decide), if_neg (show ¬ (18 : Int32) = 16 by decide), if_neg (show ¬ (18 : Int32) = 17 by decide), if_pos rfl]
  obtain ⟨x1, h1⟩ : ∃ x, xs.getD (nI j + 1).toNatClampNeg 0 = x := ⟨_, rfl⟩
  obtain ⟨x2, h2⟩ : ∃ x, xs.getD (nI j + 2).toNatClampNeg 0 = x := ⟨_, rfl⟩
  obtain ⟨x3, h3⟩ : ∃ x, xs.getD (nI j + 3).toNatClampNeg 0 = x := ⟨_, rfl⟩
  obtain ⟨r, g, g2, eA, k1, eB, k2⟩ := q_duel I (N := N) (by omega) x1 x2 x3
  have i1 := mi_217 (ma_H_q I.1 k1)
  dsimp only at eB
  refine ⟨g2, ?_, ma_INV_q (ma_INV_q I k1) k2⟩
  repeat (first | rw [if_pos p1] | rw [if_pos p2] | rw [if_pos p3] | rw [if_pos p4] | rw [if_pos p5] | rw [if_pos i0])
  rw [h1, h2, h3, eA, Option.bind_some]
  dsimp only
  repeat (first | rw [if_pos p1] | rw [if_pos p2] | rw [if_pos p3] | rw [if_pos p4] | rw [if_pos p5] | rw [if_pos i1])
  rw [eB, Option.bind_some]
  dsimp only
  rw [if_pos rfl, lH6]
theorem lw_19 (hL : xs.length ≤ 3072) (I : ma_INV h) (hN : 50000 < N) (hj : j + 6 ≤ xs.length) (c : xs.getD (nI j).toNatClampNeg 0 &&& 63 = 19) : ∃ g, f_307_18s xs N 0 217 (nI j, h) = some (.inl (nI (j + 6), g)) ∧ ma_INV g := by
  have p0 : pb_in (nI j) xs.length := lw_in0 (by omega) (by omega)
  have p1 : pb_in (nI j + 1) xs.length := lw_in (k := 1) (by omega) (by omega)
  have p2 : pb_in (nI j + 2) xs.length := lw_in (k := 2) (by omega) (by omega)
  have p3 : pb_in (nI j + 3) xs.length := lw_in (k := 3) (by omega) (by omega)
  have p4 : pb_in (nI j + 4) xs.length := lw_in (k := 4) (by omega) (by omega)
  have p5 : pb_in (nI j + 5) xs.length := lw_in (k := 5) (by omega) (by omega)
  have i0 := mi_0 I.1
  have e0 : ¬ (Int32.ofNat xs.length - 6 < nI j) := lw_no (by omega) hj
  unfold f_307_18s
  dsimp only
  rw [if_neg e0, if_pos p0, c, if_neg (show ¬ (19 : Int32) = 0 by decide), if_neg (show ¬ (19 : Int32) = 1 by decide), if_neg (show ¬ (19 : Int32) = 2 by decide), if_neg (show ¬ (19 : Int32) = 3 by decide), if_neg (show ¬ (19 : Int32) = 4 by decide), if_neg (show ¬ (19 : Int32) = 5 by decide), if_neg (show ¬ (19 : Int32) = 6 by decide), if_neg (show ¬ (19 : Int32) = 7 by decide), if_neg (show ¬ (19 : Int32) = 8 by decide), if_neg (show ¬ (19 : Int32) = 9 by decide), if_neg (show ¬ (19 : Int32) = 10 by decide), if_neg (show ¬ (19 : Int32) = 11 by decide), if_neg (show ¬ (19 : Int32) = 12 by decide), if_neg (show ¬ (19 : Int32) = 13 by decide), if_neg (show ¬ (19 : Int32) = 14 by decide), if_neg (show ¬ (19 : Int32) = 15 by decide), if_neg (show ¬ (19 : Int32) = 16 by decide), if_neg (show ¬ (19 : Int32) = 17 by decide), if_neg (show ¬ (19 : Int32) = 18 by decide), if_pos rfl]
  obtain ⟨x1, h1⟩ : ∃ x, xs.getD (nI j + 1).toNatClampNeg 0 = x := ⟨_, rfl⟩
  obtain ⟨x2, h2⟩ : ∃ x, xs.getD (nI j + 2).toNatClampNeg 0 = x := ⟨_, rfl⟩
  obtain ⟨r, g, g2, eA, k1, eB, k2⟩ := q_best I (N := N) (by omega) x1 x2
  have i1 := mi_217 (ma_H_q I.1 k1)
  dsimp only at eB
  refine ⟨g2, ?_, ma_INV_q (ma_INV_q I k1) k2⟩
  repeat (first | rw [if_pos p1] | rw [if_pos p2] | rw [if_pos p3] | rw [if_pos p4] | rw [if_pos p5] | rw [if_pos i0])
  rw [h1, h2, eA, Option.bind_some]
  dsimp only
  repeat (first | rw [if_pos p1] | rw [if_pos p2] | rw [if_pos p3] | rw [if_pos p4] | rw [if_pos p5] | rw [if_pos i1])
  rw [eB, Option.bind_some]
  dsimp only
  rw [if_pos rfl, lH6]
theorem lw_20 (hL : xs.length ≤ 3072) (I : ma_INV h) (hN : 50000 < N) (hj : j + 6 ≤ xs.length) (c : xs.getD (nI j).toNatClampNeg 0 &&& 63 = 20) : ∃ g, f_307_18s xs N 0 217 (nI j, h) = some (.inl (nI (j + 6), g)) ∧ ma_INV g := by
  have p0 : pb_in (nI j) xs.length := lw_in0 (by omega) (by omega)
  have p1 : pb_in (nI j + 1) xs.length := lw_in (k := 1) (by omega) (by omega)
  have p2 : pb_in (nI j + 2) xs.length := lw_in (k := 2) (by omega) (by omega)
  have p3 : pb_in (nI j + 3) xs.length := lw_in (k := 3) (by omega) (by omega)
  have p4 : pb_in (nI j + 4) xs.length := lw_in (k := 4) (by omega) (by omega)
  have p5 : pb_in (nI j + 5) xs.length := lw_in (k := 5) (by omega) (by omega)
  have i0 := mi_0 I.1
  have e0 : ¬ (Int32.ofNat xs.length - 6 < nI j) := lw_no (by omega) hj
  unfold f_307_18s
  dsimp only
  rw [if_neg e0, if_pos p0, c, if_neg (show ¬ (20 : Int32) = 0 by decide), if_neg (show ¬ (20 : Int32) = 1 by decide), if_neg (show ¬ (20 : Int32) = 2 by decide), if_neg (show ¬ (20 : Int32) = 3 by decide), if_neg (show ¬ (20 : Int32) = 4 by decide), if_neg (show ¬ (20 : Int32) = 5 by decide), if_neg (show ¬ (20 : Int32) = 6 by decide), if_neg (show ¬ (20 : Int32) = 7 by decide), if_neg (show ¬ (20 : Int32) = 8 by decide), if_neg (show ¬ (20 : Int32) = 9 by decide), if_neg (show ¬ (20 : Int32) = 10 by decide), if_neg (show ¬ (20 : Int32) = 11 by decide), if_neg (show ¬ (20 : Int32) = 12 by decide), if_neg (show ¬ (20 : Int32) = 13 by decide), if_neg (show ¬ (20 : Int32) = 14 by decide), if_neg (show ¬ (20 : Int32) = 15 by decide), if_neg (show ¬ (20 : Int32) = 16 by decide), if_neg (show ¬ (20 : Int32) = 17 by decide), if_neg (show ¬ (20 : Int32) = 18 by decide), if_neg (show ¬ (20 : Int32) = 19 by decide), if_pos rfl]
  obtain ⟨x1, h1⟩ : ∃ x, xs.getD (nI j + 1).toNatClampNeg 0 = x := ⟨_, rfl⟩
  obtain ⟨x2, h2⟩ : ∃ x, xs.getD (nI j + 2).toNatClampNeg 0 = x := ⟨_, rfl⟩
  obtain ⟨r, g, g2, eA, k1, eB, k2⟩ := q_benches I (N := N) (by omega) x1 x2
  have i1 := mi_217 (ma_H_q I.1 k1)
  dsimp only at eB
  refine ⟨g2, ?_, ma_INV_q (ma_INV_q I k1) k2⟩
  repeat (first | rw [if_pos p1] | rw [if_pos p2] | rw [if_pos p3] | rw [if_pos p4] | rw [if_pos p5] | rw [if_pos i0])
  rw [h1, h2, eA, Option.bind_some]
  dsimp only
  repeat (first | rw [if_pos p1] | rw [if_pos p2] | rw [if_pos p3] | rw [if_pos p4] | rw [if_pos p5] | rw [if_pos i1])
  rw [eB, Option.bind_some]
  dsimp only
  rw [if_pos rfl, lH6]
theorem lw_21 (hL : xs.length ≤ 3072) (I : ma_INV h) (hN : 50000 < N) (hj : j + 6 ≤ xs.length) (c : xs.getD (nI j).toNatClampNeg 0 &&& 63 = 21) : ∃ g, f_307_18s xs N 0 217 (nI j, h) = some (.inl (nI (j + 6), g)) ∧ ma_INV g := by
  have p0 : pb_in (nI j) xs.length := lw_in0 (by omega) (by omega)
  have p1 : pb_in (nI j + 1) xs.length := lw_in (k := 1) (by omega) (by omega)
  have p2 : pb_in (nI j + 2) xs.length := lw_in (k := 2) (by omega) (by omega)
  have p3 : pb_in (nI j + 3) xs.length := lw_in (k := 3) (by omega) (by omega)
  have p4 : pb_in (nI j + 4) xs.length := lw_in (k := 4) (by omega) (by omega)
  have p5 : pb_in (nI j + 5) xs.length := lw_in (k := 5) (by omega) (by omega)
  have i0 := mi_0 I.1
  have e0 : ¬ (Int32.ofNat xs.length - 6 < nI j) := lw_no (by omega) hj
  unfold f_307_18s
  dsimp only
  rw [if_neg e0, if_pos p0, c, if_neg (show ¬ (21 : Int32) = 0 by decide), if_neg (show ¬ (21 : Int32) = 1 by decide), if_neg (show ¬ (21 : Int32) = 2 by decide), if_neg (show ¬ (21 : Int32) = 3 by decide), if_neg (show ¬ (21 : Int32) = 4 by decide), if_neg (show ¬ (21 : Int32) = 5 by decide), if_neg (show ¬ (21 : Int32) = 6 by decide), if_neg (show ¬ (21 : Int32) = 7 by decide), if_neg (show ¬ (21 : Int32) = 8 by decide), if_neg (show ¬ (21 : Int32) = 9 by decide), if_neg (show ¬ (21 : Int32) = 10 by decide), if_neg (show ¬ (21 : Int32) = 11 by decide), if_neg (show ¬ (21 : Int32) = 12 by decide), if_neg (show ¬ (21 : Int32) = 13 by decide), if_neg (show ¬ (21 : Int32) = 14 by decide), if_neg (show ¬ (21 : Int32) = 15 by decide), if_neg (show ¬ (21 : Int32) = 16 by decide), if_neg (show ¬ (21 : Int32) = 17 by decide), if_neg (show ¬ (21 : Int32) = 18 by decide), if_neg (show ¬ (21 : Int32) = 19 by decide), if_neg (show ¬ (21 : Int32) = 20 by decide), if_pos rfl]
  obtain ⟨x1, h1⟩ : ∃ x, xs.getD (nI j + 1).toNatClampNeg 0 = x := ⟨_, rfl⟩
  obtain ⟨x2, h2⟩ : ∃ x, xs.getD (nI j + 2).toNatClampNeg 0 = x := ⟨_, rfl⟩
  obtain ⟨x3, h3⟩ : ∃ x, xs.getD (nI j + 3).toNatClampNeg 0 = x := ⟨_, rfl⟩
  obtain ⟨r, g, g2, eA, k1, eB, k2⟩ := q_trade I (N := N) (by omega) x1 x2 x3
  have i1 := mi_217 (ma_H_q I.1 k1)
  dsimp only at eB
  refine ⟨g2, ?_, ma_INV_q (ma_INV_q I k1) k2⟩
  repeat (first | rw [if_pos p1] | rw [if_pos p2] | rw [if_pos p3] | rw [if_pos p4] | rw [if_pos p5] | rw [if_pos i0])
  rw [h1, h2, h3, eA, Option.bind_some]
  dsimp only
  repeat (first | rw [if_pos p1] | rw [if_pos p2] | rw [if_pos p3] | rw [if_pos p4] | rw [if_pos p5] | rw [if_pos i1])
  rw [eB, Option.bind_some]
  dsimp only
  rw [if_pos rfl, lH6]
theorem lw_22 (hL : xs.length ≤ 3072) (I : ma_INV h) (hN : 50000 < N) (hj : j + 6 ≤ xs.length) (c : xs.getD (nI j).toNatClampNeg 0 &&& 63 = 22) : ∃ g, f_307_18s xs N 0 217 (nI j, h) = some (.inl (nI (j + 6), g)) ∧ ma_INV g := by
  have p0 : pb_in (nI j) xs.length := lw_in0 (by omega) (by omega)
  have p1 : pb_in (nI j + 1) xs.length := lw_in (k := 1) (by omega) (by omega)
  have p2 : pb_in (nI j + 2) xs.length := lw_in (k := 2) (by omega) (by omega)
  have p3 : pb_in (nI j + 3) xs.length := lw_in (k := 3) (by omega) (by omega)
  have p4 : pb_in (nI j + 4) xs.length := lw_in (k := 4) (by omega) (by omega)
  have p5 : pb_in (nI j + 5) xs.length := lw_in (k := 5) (by omega) (by omega)
  have i0 := mi_0 I.1
  have e0 : ¬ (Int32.ofNat xs.length - 6 < nI j) := lw_no (by omega) hj
  unfold f_307_18s
  dsimp only
  rw [if_neg e0, if_pos p0, c, if_neg (show ¬ (22 : Int32) = 0 by decide), if_neg (show ¬ (22 : Int32) = 1 by decide), if_neg (show ¬ (22 : Int32) = 2 by decide), if_neg (show ¬ (22 : Int32) = 3 by decide), if_neg (show ¬ (22 : Int32) = 4 by decide), if_neg (show ¬ (22 : Int32) = 5 by decide), if_neg (show ¬ (22 : Int32) = 6 by decide), if_neg (show ¬ (22 : Int32) = 7 by decide), if_neg (show ¬ (22 : Int32) = 8 by decide), if_neg (show ¬ (22 : Int32) = 9 by decide), if_neg (show ¬ (22 : Int32) = 10 by decide), if_neg (show ¬ (22 : Int32) = 11 by decide), if_neg (show ¬ (22 : Int32) = 12 by decide), if_neg (show ¬ (22 : Int32) = 13 by decide), if_neg (show ¬ (22 : Int32) = 14 by decide), if_neg (show ¬ (22 : Int32) = 15 by decide), if_neg (show ¬ (22 : Int32) = 16 by decide), if_neg (show ¬ (22 : Int32) = 17 by decide), if_neg (show ¬ (22 : Int32) = 18 by decide), if_neg (show ¬ (22 : Int32) = 19 by decide), if_neg (show ¬ (22 : Int32) = 20 by decide), if_neg (show ¬ (22 : Int32) = 21 by decide), if_pos rfl]
  obtain ⟨x1, h1⟩ : ∃ x, xs.getD (nI j + 1).toNatClampNeg 0 = x := ⟨_, rfl⟩
  obtain ⟨x2, h2⟩ : ∃ x, xs.getD (nI j + 2).toNatClampNeg 0 = x := ⟨_, rfl⟩
  by_cases z5 : x2 = 0
  · obtain ⟨r, g2, eA, eB, k2⟩ := q_gang I (N := N) (by omega) x1 0
    have i1 := mi_217 I.1
    dsimp only at eB
    refine ⟨g2, ?_, ma_INV_q I k2⟩
    repeat (first | rw [if_pos p1] | rw [if_pos p2] | rw [if_pos p3] | rw [if_pos p4] | rw [if_pos p5] | rw [if_pos i0])
    rw [h1, h2, if_pos z5]
    unfold f_307_1247
    repeat (first | rw [if_pos p1] | rw [if_pos p2] | rw [if_pos p3] | rw [if_pos p4] | rw [if_pos p5] | rw [if_pos i0])
    rw [eA, Option.bind_some]
    repeat (first | rw [if_pos p1] | rw [if_pos p2] | rw [if_pos p3] | rw [if_pos p4] | rw [if_pos p5] | rw [if_pos i1])
    rw [h1, h2, if_pos z5]
    unfold f_307_1269
    repeat (first | rw [if_pos p1] | rw [if_pos p2] | rw [if_pos p3] | rw [if_pos p4] | rw [if_pos p5] | rw [if_pos i1])
    rw [eB, Option.bind_some]
    dsimp only
    rw [if_pos rfl, lH6]
  · obtain ⟨r, g2, eA, eB, k2⟩ := q_gang I (N := N) (by omega) x1 1
    have i1 := mi_217 I.1
    dsimp only at eB
    refine ⟨g2, ?_, ma_INV_q I k2⟩
    repeat (first | rw [if_pos p1] | rw [if_pos p2] | rw [if_pos p3] | rw [if_pos p4] | rw [if_pos p5] | rw [if_pos i0])
    rw [h1, h2, if_neg z5]
    unfold f_307_1247
    repeat (first | rw [if_pos p1] | rw [if_pos p2] | rw [if_pos p3] | rw [if_pos p4] | rw [if_pos p5] | rw [if_pos i0])
    rw [eA, Option.bind_some]
    repeat (first | rw [if_pos p1] | rw [if_pos p2] | rw [if_pos p3] | rw [if_pos p4] | rw [if_pos p5] | rw [if_pos i1])
    rw [h1, h2, if_neg z5]
    unfold f_307_1269
    repeat (first | rw [if_pos p1] | rw [if_pos p2] | rw [if_pos p3] | rw [if_pos p4] | rw [if_pos p5] | rw [if_pos i1])
    rw [eB, Option.bind_some]
    dsimp only
    rw [if_pos rfl, lH6]
theorem lw_23 (hL : xs.length ≤ 3072) (I : ma_INV h) (hN : 50000 < N) (hj : j + 6 ≤ xs.length) (c : xs.getD (nI j).toNatClampNeg 0 &&& 63 = 23) : ∃ g, f_307_18s xs N 0 217 (nI j, h) = some (.inl (nI (j + 6), g)) ∧ ma_INV g := by
  have p0 : pb_in (nI j) xs.length := lw_in0 (by omega) (by omega)
  have p1 : pb_in (nI j + 1) xs.length := lw_in (k := 1) (by omega) (by omega)
  have p2 : pb_in (nI j + 2) xs.length := lw_in (k := 2) (by omega) (by omega)
  have p3 : pb_in (nI j + 3) xs.length := lw_in (k := 3) (by omega) (by omega)
  have p4 : pb_in (nI j + 4) xs.length := lw_in (k := 4) (by omega) (by omega)
  have p5 : pb_in (nI j + 5) xs.length := lw_in (k := 5) (by omega) (by omega)
  have i0 := mi_0 I.1
  have e0 : ¬ (Int32.ofNat xs.length - 6 < nI j) := lw_no (by omega) hj
  unfold f_307_18s
  dsimp only
  rw [if_neg e0, if_pos p0, c, if_neg (show ¬ (23 : Int32) = 0 by decide), if_neg (show ¬ (23 : Int32) = 1 by decide), if_neg (show ¬ (23 : Int32) = 2 by decide), if_neg (show ¬ (23 : Int32) = 3 by decide), if_neg (show ¬ (23 : Int32) = 4 by decide), if_neg (show ¬ (23 : Int32) = 5 by decide), if_neg (show ¬ (23 : Int32) = 6 by decide), if_neg (show ¬ (23 : Int32) = 7 by decide), if_neg (show ¬ (23 : Int32) = 8 by decide), if_neg (show ¬ (23 : Int32) = 9 by decide), if_neg (show ¬ (23 : Int32) = 10 by decide), if_neg (show ¬ (23 : Int32) = 11 by decide), if_neg (show ¬ (23 : Int32) = 12 by decide), if_neg (show ¬ (23 : Int32) = 13 by decide), if_neg (show ¬ (23 : Int32) = 14 by decide), if_neg (show ¬ (23 : Int32) = 15 by decide), if_neg (show ¬ (23 : Int32) = 16 by decide), if_neg (show ¬ (23 : Int32) = 17 by decide), if_neg (show ¬ (23 : Int32) = 18 by decide), if_neg (show ¬ (23 : Int32) = 19 by decide), if_neg (show ¬ (23 : Int32) = 20 by decide), if_neg (show ¬ (23 : Int32) = 21 by decide), if_neg (show ¬ (23 : Int32) = 22 by decide), if_pos rfl]
  obtain ⟨x1, h1⟩ : ∃ x, xs.getD (nI j + 1).toNatClampNeg 0 = x := ⟨_, rfl⟩
  obtain ⟨x2, h2⟩ : ∃ x, xs.getD (nI j + 2).toNatClampNeg 0 = x := ⟨_, rfl⟩
  obtain ⟨r, g2, eA, eB, k2⟩ := q_kindest I (N := N) (by omega) x1 x2
  have i1 := mi_217 I.1
  dsimp only at eB
  refine ⟨g2, ?_, ma_INV_q I k2⟩
  repeat (first | rw [if_pos p1] | rw [if_pos p2] | rw [if_pos p3] | rw [if_pos p4] | rw [if_pos p5] | rw [if_pos i0])
  rw [h1, h2, eA, Option.bind_some]
  repeat (first | rw [if_pos p1] | rw [if_pos p2] | rw [if_pos p3] | rw [if_pos p4] | rw [if_pos p5] | rw [if_pos i1])
  rw [eB, Option.bind_some]
  dsimp only
  rw [if_pos rfl, lH6]
theorem lw_24 (hL : xs.length ≤ 3072) (I : ma_INV h) (hN : 50000 < N) (hj : j + 6 ≤ xs.length) (c : xs.getD (nI j).toNatClampNeg 0 &&& 63 = 24) : ∃ g, f_307_18s xs N 0 217 (nI j, h) = some (.inl (nI (j + 6), g)) ∧ ma_INV g := by
  have p0 : pb_in (nI j) xs.length := lw_in0 (by omega) (by omega)
  have p1 : pb_in (nI j + 1) xs.length := lw_in (k := 1) (by omega) (by omega)
  have p2 : pb_in (nI j + 2) xs.length := lw_in (k := 2) (by omega) (by omega)
  have p3 : pb_in (nI j + 3) xs.length := lw_in (k := 3) (by omega) (by omega)
  have p4 : pb_in (nI j + 4) xs.length := lw_in (k := 4) (by omega) (by omega)
  have p5 : pb_in (nI j + 5) xs.length := lw_in (k := 5) (by omega) (by omega)
  have i0 := mi_0 I.1
  have e0 : ¬ (Int32.ofNat xs.length - 6 < nI j) := lw_no (by omega) hj
  unfold f_307_18s
  dsimp only
  rw [if_neg e0, if_pos p0, c, if_neg (show ¬ (24 : Int32) = 0 by decide), if_neg (show ¬ (24 : Int32) = 1 by decide), if_neg (show ¬ (24 : Int32) = 2 by decide), if_neg (show ¬ (24 : Int32) = 3 by decide), if_neg (show ¬ (24 : Int32) = 4 by decide), if_neg (show ¬ (24 : Int32) = 5 by decide), if_neg (show ¬ (24 : Int32) = 6 by decide), if_neg (show ¬ (24 : Int32) = 7 by decide), if_neg (show ¬ (24 : Int32) = 8 by decide), if_neg (show ¬ (24 : Int32) = 9 by decide), if_neg (show ¬ (24 : Int32) = 10 by decide), if_neg (show ¬ (24 : Int32) = 11 by decide), if_neg (show ¬ (24 : Int32) = 12 by decide), if_neg (show ¬ (24 : Int32) = 13 by decide), if_neg (show ¬ (24 : Int32) = 14 by decide), if_neg (show ¬ (24 : Int32) = 15 by decide), if_neg (show ¬ (24 : Int32) = 16 by decide), if_neg (show ¬ (24 : Int32) = 17 by decide), if_neg (show ¬ (24 : Int32) = 18 by decide), if_neg (show ¬ (24 : Int32) = 19 by decide), if_neg (show ¬ (24 : Int32) = 20 by decide), if_neg (show ¬ (24 : Int32) = 21 by decide), if_neg (show ¬ (24 : Int32) = 22 by decide), if_neg (show ¬ (24 : Int32) = 23 by decide), if_pos rfl]
  obtain ⟨x1, h1⟩ : ∃ x, xs.getD (nI j + 1).toNatClampNeg 0 = x := ⟨_, rfl⟩
  obtain ⟨x2, h2⟩ : ∃ x, xs.getD (nI j + 2).toNatClampNeg 0 = x := ⟨_, rfl⟩
  obtain ⟨r, g2, eA, eB, k2⟩ := q_freed I (N := N) (by omega) x1 x2
  have i1 := mi_217 I.1
  dsimp only at eB
  refine ⟨g2, ?_, ma_INV_q I k2⟩
  repeat (first | rw [if_pos p1] | rw [if_pos p2] | rw [if_pos p3] | rw [if_pos p4] | rw [if_pos p5] | rw [if_pos i0])
  rw [h1, h2, eA, Option.bind_some]
  repeat (first | rw [if_pos p1] | rw [if_pos p2] | rw [if_pos p3] | rw [if_pos p4] | rw [if_pos p5] | rw [if_pos i1])
  rw [eB, Option.bind_some]
  dsimp only
  rw [if_pos rfl, lH6]
theorem lw_25 (hL : xs.length ≤ 3072) (I : ma_INV h) (hN : 50000 < N) (hj : j + 6 ≤ xs.length) (c : xs.getD (nI j).toNatClampNeg 0 &&& 63 = 25) : ∃ g, f_307_18s xs N 0 217 (nI j, h) = some (.inl (nI (j + 6), g)) ∧ ma_INV g := by
  have p0 : pb_in (nI j) xs.length := lw_in0 (by omega) (by omega)
  have p1 : pb_in (nI j + 1) xs.length := lw_in (k := 1) (by omega) (by omega)
  have p2 : pb_in (nI j + 2) xs.length := lw_in (k := 2) (by omega) (by omega)
  have p3 : pb_in (nI j + 3) xs.length := lw_in (k := 3) (by omega) (by omega)
  have p4 : pb_in (nI j + 4) xs.length := lw_in (k := 4) (by omega) (by omega)
  have p5 : pb_in (nI j + 5) xs.length := lw_in (k := 5) (by omega) (by omega)
  have i0 := mi_0 I.1
  have e0 : ¬ (Int32.ofNat xs.length - 6 < nI j) := lw_no (by omega) hj
  unfold f_307_18s
  dsimp only
  rw [if_neg e0, if_pos p0, c, if_neg (show ¬ (25 : Int32) = 0 by decide), if_neg (show ¬ (25 : Int32) = 1 by decide), if_neg (show ¬ (25 : Int32) = 2 by decide), if_neg (show ¬ (25 : Int32) = 3 by decide), if_neg (show ¬ (25 : Int32) = 4 by decide), if_neg (show ¬ (25 : Int32) = 5 by decide), if_neg (show ¬ (25 : Int32) = 6 by decide), if_neg (show ¬ (25 : Int32) = 7 by decide), if_neg (show ¬ (25 : Int32) = 8 by decide), if_neg (show ¬ (25 : Int32) = 9 by decide), if_neg (show ¬ (25 : Int32) = 10 by decide), if_neg (show ¬ (25 : Int32) = 11 by decide), if_neg (show ¬ (25 : Int32) = 12 by decide), if_neg (show ¬ (25 : Int32) = 13 by decide), if_neg (show ¬ (25 : Int32) = 14 by decide), if_neg (show ¬ (25 : Int32) = 15 by decide), if_neg (show ¬ (25 : Int32) = 16 by decide), if_neg (show ¬ (25 : Int32) = 17 by decide), if_neg (show ¬ (25 : Int32) = 18 by decide), if_neg (show ¬ (25 : Int32) = 19 by decide), if_neg (show ¬ (25 : Int32) = 20 by decide), if_neg (show ¬ (25 : Int32) = 21 by decide), if_neg (show ¬ (25 : Int32) = 22 by decide), if_neg (show ¬ (25 : Int32) = 23 by decide), if_neg (show ¬ (25 : Int32) = 24 by decide), if_pos rfl]
  obtain ⟨x1, h1⟩ : ∃ x, xs.getD (nI j + 1).toNatClampNeg 0 = x := ⟨_, rfl⟩
  obtain ⟨x2, h2⟩ : ∃ x, xs.getD (nI j + 2).toNatClampNeg 0 = x := ⟨_, rfl⟩
  obtain ⟨x3, h3⟩ : ∃ x, xs.getD (nI j + 3).toNatClampNeg 0 = x := ⟨_, rfl⟩
  by_cases z5 : x3 = 0
  · obtain ⟨r, g2, eA, eB, k2⟩ := q_liked I (N := N) (by omega) x1 x2 0
    have i1 := mi_217 I.1
    dsimp only at eB
    refine ⟨g2, ?_, ma_INV_q I k2⟩
    repeat (first | rw [if_pos p1] | rw [if_pos p2] | rw [if_pos p3] | rw [if_pos p4] | rw [if_pos p5] | rw [if_pos i0])
    rw [h1, h2, h3, if_pos z5]
    unfold f_307_1367
    repeat (first | rw [if_pos p1] | rw [if_pos p2] | rw [if_pos p3] | rw [if_pos p4] | rw [if_pos p5] | rw [if_pos i0])
    rw [eA, Option.bind_some]
    repeat (first | rw [if_pos p1] | rw [if_pos p2] | rw [if_pos p3] | rw [if_pos p4] | rw [if_pos p5] | rw [if_pos i1])
    rw [h1, h2, h3, if_pos z5]
    unfold f_307_1394
    repeat (first | rw [if_pos p1] | rw [if_pos p2] | rw [if_pos p3] | rw [if_pos p4] | rw [if_pos p5] | rw [if_pos i1])
    rw [eB, Option.bind_some]
    dsimp only
    rw [if_pos ((tx_cmp _ _).mpr rfl), lH6]
  · obtain ⟨r, g2, eA, eB, k2⟩ := q_liked I (N := N) (by omega) x1 x2 1
    have i1 := mi_217 I.1
    dsimp only at eB
    refine ⟨g2, ?_, ma_INV_q I k2⟩
    repeat (first | rw [if_pos p1] | rw [if_pos p2] | rw [if_pos p3] | rw [if_pos p4] | rw [if_pos p5] | rw [if_pos i0])
    rw [h1, h2, h3, if_neg z5]
    unfold f_307_1367
    repeat (first | rw [if_pos p1] | rw [if_pos p2] | rw [if_pos p3] | rw [if_pos p4] | rw [if_pos p5] | rw [if_pos i0])
    rw [eA, Option.bind_some]
    repeat (first | rw [if_pos p1] | rw [if_pos p2] | rw [if_pos p3] | rw [if_pos p4] | rw [if_pos p5] | rw [if_pos i1])
    rw [h1, h2, h3, if_neg z5]
    unfold f_307_1394
    repeat (first | rw [if_pos p1] | rw [if_pos p2] | rw [if_pos p3] | rw [if_pos p4] | rw [if_pos p5] | rw [if_pos i1])
    rw [eB, Option.bind_some]
    dsimp only
    rw [if_pos ((tx_cmp _ _).mpr rfl), lH6]
theorem lw_26 (hL : xs.length ≤ 3072) (I : ma_INV h) (hN : 50000 < N) (hj : j + 6 ≤ xs.length) (c : xs.getD (nI j).toNatClampNeg 0 &&& 63 = 26) : ∃ g, f_307_18s xs N 0 217 (nI j, h) = some (.inl (nI (j + 6), g)) ∧ ma_INV g := by
  have p0 : pb_in (nI j) xs.length := lw_in0 (by omega) (by omega)
  have p1 : pb_in (nI j + 1) xs.length := lw_in (k := 1) (by omega) (by omega)
  have p2 : pb_in (nI j + 2) xs.length := lw_in (k := 2) (by omega) (by omega)
  have p3 : pb_in (nI j + 3) xs.length := lw_in (k := 3) (by omega) (by omega)
  have p4 : pb_in (nI j + 4) xs.length := lw_in (k := 4) (by omega) (by omega)
  have p5 : pb_in (nI j + 5) xs.length := lw_in (k := 5) (by omega) (by omega)
  have i0 := mi_0 I.1
  have e0 : ¬ (Int32.ofNat xs.length - 6 < nI j) := lw_no (by omega) hj
  unfold f_307_18s
  dsimp only
  rw [if_neg e0, if_pos p0, c, if_neg (show ¬ (26 : Int32) = 0 by decide), if_neg (show ¬ (26 : Int32) = 1 by decide), if_neg (show ¬ (26 : Int32) = 2 by decide), if_neg (show ¬ (26 : Int32) = 3 by decide), if_neg (show ¬ (26 : Int32) = 4 by decide), if_neg (show ¬ (26 : Int32) = 5 by decide), if_neg (show ¬ (26 : Int32) = 6 by decide), if_neg (show ¬ (26 : Int32) = 7 by decide), if_neg (show ¬ (26 : Int32) = 8 by decide), if_neg (show ¬ (26 : Int32) = 9 by decide), if_neg (show ¬ (26 : Int32) = 10 by decide), if_neg (show ¬ (26 : Int32) = 11 by decide), if_neg (show ¬ (26 : Int32) = 12 by decide), if_neg (show ¬ (26 : Int32) = 13 by decide), if_neg (show ¬ (26 : Int32) = 14 by decide), if_neg (show ¬ (26 : Int32) = 15 by decide), if_neg (show ¬ (26 : Int32) = 16 by decide), if_neg (show ¬ (26 : Int32) = 17 by decide), if_neg (show ¬ (26 : Int32) = 18 by decide), if_neg (show ¬ (26 : Int32) = 19 by decide), if_neg (show ¬ (26 : Int32) = 20 by decide), if_neg (show ¬ (26 : Int32) = 21 by decide), if_neg (show ¬ (26 : Int32) = 22 by decide), if_neg (show ¬ (26 : Int32) = 23 by decide), if_neg (show ¬ (26 : Int32) = 24 by decide), if_neg (show ¬ (26 : Int32) = 25 by decide), if_pos rfl]
  obtain ⟨x1, h1⟩ : ∃ x, xs.getD (nI j + 1).toNatClampNeg 0 = x := ⟨_, rfl⟩
  obtain ⟨x2, h2⟩ : ∃ x, xs.getD (nI j + 2).toNatClampNeg 0 = x := ⟨_, rfl⟩
  obtain ⟨x3, h3⟩ : ∃ x, xs.getD (nI j + 3).toNatClampNeg 0 = x := ⟨_, rfl⟩
  obtain ⟨r, g2, eA, eB, k2⟩ := q_unlike I (N := N) (by omega) x1 x2 x3
  have i1 := mi_217 I.1
  dsimp only at eB
  refine ⟨g2, ?_, ma_INV_q I k2⟩
  repeat (first | rw [if_pos p1] | rw [if_pos p2] | rw [if_pos p3] | rw [if_pos p4] | rw [if_pos p5] | rw [if_pos i0])
  rw [h1, h2, h3, eA, Option.bind_some]
  repeat (first | rw [if_pos p1] | rw [if_pos p2] | rw [if_pos p3] | rw [if_pos p4] | rw [if_pos p5] | rw [if_pos i1])
  rw [eB, Option.bind_some]
  dsimp only
  rw [if_pos rfl, lH6]
theorem lw_27 (hL : xs.length ≤ 3072) (I : ma_INV h) (hN : 50000 < N) (hj : j + 6 ≤ xs.length) (c : xs.getD (nI j).toNatClampNeg 0 &&& 63 = 27) : ∃ g, f_307_18s xs N 0 217 (nI j, h) = some (.inl (nI (j + 6), g)) ∧ ma_INV g := by
  have p0 : pb_in (nI j) xs.length := lw_in0 (by omega) (by omega)
  have p1 : pb_in (nI j + 1) xs.length := lw_in (k := 1) (by omega) (by omega)
  have p2 : pb_in (nI j + 2) xs.length := lw_in (k := 2) (by omega) (by omega)
  have p3 : pb_in (nI j + 3) xs.length := lw_in (k := 3) (by omega) (by omega)
  have p4 : pb_in (nI j + 4) xs.length := lw_in (k := 4) (by omega) (by omega)
  have p5 : pb_in (nI j + 5) xs.length := lw_in (k := 5) (by omega) (by omega)
  have i0 := mi_0 I.1
  have e0 : ¬ (Int32.ofNat xs.length - 6 < nI j) := lw_no (by omega) hj
  unfold f_307_18s
  dsimp only
  rw [if_neg e0, if_pos p0, c, if_neg (show ¬ (27 : Int32) = 0 by decide), if_neg (show ¬ (27 : Int32) = 1 by decide), if_neg (show ¬ (27 : Int32) = 2 by decide), if_neg (show ¬ (27 : Int32) = 3 by decide), if_neg (show ¬ (27 : Int32) = 4 by decide), if_neg (show ¬ (27 : Int32) = 5 by decide), if_neg (show ¬ (27 : Int32) = 6 by decide), if_neg (show ¬ (27 : Int32) = 7 by decide), if_neg (show ¬ (27 : Int32) = 8 by decide), if_neg (show ¬ (27 : Int32) = 9 by decide), if_neg (show ¬ (27 : Int32) = 10 by decide), if_neg (show ¬ (27 : Int32) = 11 by decide), if_neg (show ¬ (27 : Int32) = 12 by decide), if_neg (show ¬ (27 : Int32) = 13 by decide), if_neg (show ¬ (27 : Int32) = 14 by decide), if_neg (show ¬ (27 : Int32) = 15 by decide), if_neg (show ¬ (27 : Int32) = 16 by decide), if_neg (show ¬ (27 : Int32) = 17 by decide), if_neg (show ¬ (27 : Int32) = 18 by decide), if_neg (show ¬ (27 : Int32) = 19 by decide), if_neg (show ¬ (27 : Int32) = 20 by decide), if_neg (show ¬ (27 : Int32) = 21 by decide), if_neg (show ¬ (27 : Int32) = 22 by decide), if_neg (show ¬ (27 : Int32) = 23 by decide), if_neg (show ¬ (27 : Int32) = 24 by decide), if_neg (show ¬ (27 : Int32) = 25 by decide), if_neg (show ¬ (27 : Int32) = 26 by decide), if_pos rfl]
  obtain ⟨x1, h1⟩ : ∃ x, xs.getD (nI j + 1).toNatClampNeg 0 = x := ⟨_, rfl⟩
  obtain ⟨x2, h2⟩ : ∃ x, xs.getD (nI j + 2).toNatClampNeg 0 = x := ⟨_, rfl⟩
  obtain ⟨r, g2, eA, eB, k2⟩ := q_runoff I (N := N) (by omega) x1 x2
  have i1 := mi_217 I.1
  dsimp only at eB
  refine ⟨g2, ?_, ma_INV_q I k2⟩
  repeat (first | rw [if_pos p1] | rw [if_pos p2] | rw [if_pos p3] | rw [if_pos p4] | rw [if_pos p5] | rw [if_pos i0])
  rw [h1, h2, eA, Option.bind_some]
  repeat (first | rw [if_pos p1] | rw [if_pos p2] | rw [if_pos p3] | rw [if_pos p4] | rw [if_pos p5] | rw [if_pos i1])
  rw [eB, Option.bind_some]
  dsimp only
  rw [if_pos rfl, lH6]
theorem lw_28 (hL : xs.length ≤ 3072) (I : ma_INV h) (hN : 50000 < N) (hj : j + 6 ≤ xs.length) (c : xs.getD (nI j).toNatClampNeg 0 &&& 63 = 28) : ∃ g, f_307_18s xs N 0 217 (nI j, h) = some (.inl (nI (j + 6), g)) ∧ ma_INV g := by
  have p0 : pb_in (nI j) xs.length := lw_in0 (by omega) (by omega)
  have p1 : pb_in (nI j + 1) xs.length := lw_in (k := 1) (by omega) (by omega)
  have p2 : pb_in (nI j + 2) xs.length := lw_in (k := 2) (by omega) (by omega)
  have p3 : pb_in (nI j + 3) xs.length := lw_in (k := 3) (by omega) (by omega)
  have p4 : pb_in (nI j + 4) xs.length := lw_in (k := 4) (by omega) (by omega)
  have p5 : pb_in (nI j + 5) xs.length := lw_in (k := 5) (by omega) (by omega)
  have i0 := mi_0 I.1
  have e0 : ¬ (Int32.ofNat xs.length - 6 < nI j) := lw_no (by omega) hj
  unfold f_307_18s
  dsimp only
  rw [if_neg e0, if_pos p0, c, if_neg (show ¬ (28 : Int32) = 0 by decide), if_neg (show ¬ (28 : Int32) = 1 by decide), if_neg (show ¬ (28 : Int32) = 2 by decide), if_neg (show ¬ (28 : Int32) = 3 by decide), if_neg (show ¬ (28 : Int32) = 4 by decide), if_neg (show ¬ (28 : Int32) = 5 by decide), if_neg (show ¬ (28 : Int32) = 6 by decide), if_neg (show ¬ (28 : Int32) = 7 by decide), if_neg (show ¬ (28 : Int32) = 8 by decide), if_neg (show ¬ (28 : Int32) = 9 by decide), if_neg (show ¬ (28 : Int32) = 10 by decide), if_neg (show ¬ (28 : Int32) = 11 by decide), if_neg (show ¬ (28 : Int32) = 12 by decide), if_neg (show ¬ (28 : Int32) = 13 by decide), if_neg (show ¬ (28 : Int32) = 14 by decide), if_neg (show ¬ (28 : Int32) = 15 by decide), if_neg (show ¬ (28 : Int32) = 16 by decide), if_neg (show ¬ (28 : Int32) = 17 by decide), if_neg (show ¬ (28 : Int32) = 18 by decide), if_neg (show ¬ (28 : Int32) = 19 by decide), if_neg (show ¬ (28 : Int32) = 20 by decide), if_neg (show ¬ (28 : Int32) = 21 by decide), if_neg (show ¬ (28 : Int32) = 22 by decide), if_neg (show ¬ (28 : Int32) = 23 by decide), if_neg (show ¬ (28 : Int32) = 24 by decide), if_neg (show ¬ (28 : Int32) = 25 by decide), if_neg (show ¬ (28 : Int32) = 26 by decide), if_neg (show ¬ (28 : Int32) = 27 by decide), if_pos rfl]
  obtain ⟨x1, h1⟩ : ∃ x, xs.getD (nI j + 1).toNatClampNeg 0 = x := ⟨_, rfl⟩
  obtain ⟨x2, h2⟩ : ∃ x, xs.getD (nI j + 2).toNatClampNeg 0 = x := ⟨_, rfl⟩
  obtain ⟨x3, h3⟩ : ∃ x, xs.getD (nI j + 3).toNatClampNeg 0 = x := ⟨_, rfl⟩
  obtain ⟨r, g, g2, eA, k1, eB, k2⟩ := q_agenda I (N := N) (by omega) x1 x2 x3
  have i1 := mi_217 (ma_H_q I.1 k1)
  dsimp only at eB
  refine ⟨g2, ?_, ma_INV_q (ma_INV_q I k1) k2⟩
  repeat (first | rw [if_pos p1] | rw [if_pos p2] | rw [if_pos p3] | rw [if_pos p4] | rw [if_pos p5] | rw [if_pos i0])
  rw [h1, h2, h3, eA, Option.bind_some]
  dsimp only
  repeat (first | rw [if_pos p1] | rw [if_pos p2] | rw [if_pos p3] | rw [if_pos p4] | rw [if_pos p5] | rw [if_pos i1])
  rw [eB, Option.bind_some]
  dsimp only
  rw [if_pos rfl, lH6]
theorem lw_29 (hL : xs.length ≤ 3072) (I : ma_INV h) (hN : 50000 < N) (hj : j + 6 ≤ xs.length) (c : xs.getD (nI j).toNatClampNeg 0 &&& 63 = 29) : ∃ g, f_307_18s xs N 0 217 (nI j, h) = some (.inl (nI (j + 6), g)) ∧ ma_INV g := by
  have p0 : pb_in (nI j) xs.length := lw_in0 (by omega) (by omega)
  have p1 : pb_in (nI j + 1) xs.length := lw_in (k := 1) (by omega) (by omega)
  have p2 : pb_in (nI j + 2) xs.length := lw_in (k := 2) (by omega) (by omega)
  have p3 : pb_in (nI j + 3) xs.length := lw_in (k := 3) (by omega) (by omega)
  have p4 : pb_in (nI j + 4) xs.length := lw_in (k := 4) (by omega) (by omega)
  have p5 : pb_in (nI j + 5) xs.length := lw_in (k := 5) (by omega) (by omega)
  have i0 := mi_0 I.1
  have e0 : ¬ (Int32.ofNat xs.length - 6 < nI j) := lw_no (by omega) hj
  unfold f_307_18s
  dsimp only
  rw [if_neg e0, if_pos p0, c, if_neg (show ¬ (29 : Int32) = 0 by decide), if_neg (show ¬ (29 : Int32) = 1 by decide), if_neg (show ¬ (29 : Int32) = 2 by decide), if_neg (show ¬ (29 : Int32) = 3 by decide), if_neg (show ¬ (29 : Int32) = 4 by decide), if_neg (show ¬ (29 : Int32) = 5 by decide), if_neg (show ¬ (29 : Int32) = 6 by decide), if_neg (show ¬ (29 : Int32) = 7 by decide), if_neg (show ¬ (29 : Int32) = 8 by decide), if_neg (show ¬ (29 : Int32) = 9 by decide), if_neg (show ¬ (29 : Int32) = 10 by decide), if_neg (show ¬ (29 : Int32) = 11 by decide), if_neg (show ¬ (29 : Int32) = 12 by decide), if_neg (show ¬ (29 : Int32) = 13 by decide), if_neg (show ¬ (29 : Int32) = 14 by decide), if_neg (show ¬ (29 : Int32) = 15 by decide), if_neg (show ¬ (29 : Int32) = 16 by decide), if_neg (show ¬ (29 : Int32) = 17 by decide), if_neg (show ¬ (29 : Int32) = 18 by decide), if_neg (show ¬ (29 : Int32) = 19 by decide), if_neg (show ¬ (29 : Int32) = 20 by decide), if_neg (show ¬ (29 : Int32) = 21 by decide), if_neg (show ¬ (29 : Int32) = 22 by decide), if_neg (show ¬ (29 : Int32) = 23 by decide), if_neg (show ¬ (29 : Int32) = 24 by decide), if_neg (show ¬ (29 : Int32) = 25 by decide), if_neg (show ¬ (29 : Int32) = 26 by decide), if_neg (show ¬ (29 : Int32) = 27 by decide), if_neg (show ¬ (29 : Int32) = 28 by decide), if_pos rfl]
  obtain ⟨x1, h1⟩ : ∃ x, xs.getD (nI j + 1).toNatClampNeg 0 = x := ⟨_, rfl⟩
  obtain ⟨x2, h2⟩ : ∃ x, xs.getD (nI j + 2).toNatClampNeg 0 = x := ⟨_, rfl⟩
  obtain ⟨r, g, g2, eA, k1, eB, k2⟩ := q_lies I (N := N) (by omega) x1 x2
  have i1 := mi_217 (ma_H_q I.1 k1)
  dsimp only at eB
  refine ⟨g2, ?_, ma_INV_q (ma_INV_q I k1) k2⟩
  repeat (first | rw [if_pos p1] | rw [if_pos p2] | rw [if_pos p3] | rw [if_pos p4] | rw [if_pos p5] | rw [if_pos i0])
  rw [h1, h2, eA, Option.bind_some]
  dsimp only
  repeat (first | rw [if_pos p1] | rw [if_pos p2] | rw [if_pos p3] | rw [if_pos p4] | rw [if_pos p5] | rw [if_pos i1])
  rw [eB, Option.bind_some]
  dsimp only
  rw [if_pos rfl, lH6]
theorem lw_30 (hL : xs.length ≤ 3072) (I : ma_INV h) (hN : 50000 < N) (hj : j + 6 ≤ xs.length) (c : xs.getD (nI j).toNatClampNeg 0 &&& 63 = 30) : ∃ g, f_307_18s xs N 0 217 (nI j, h) = some (.inl (nI (j + 6), g)) ∧ ma_INV g := by
  have p0 : pb_in (nI j) xs.length := lw_in0 (by omega) (by omega)
  have p1 : pb_in (nI j + 1) xs.length := lw_in (k := 1) (by omega) (by omega)
  have p2 : pb_in (nI j + 2) xs.length := lw_in (k := 2) (by omega) (by omega)
  have p3 : pb_in (nI j + 3) xs.length := lw_in (k := 3) (by omega) (by omega)
  have p4 : pb_in (nI j + 4) xs.length := lw_in (k := 4) (by omega) (by omega)
  have p5 : pb_in (nI j + 5) xs.length := lw_in (k := 5) (by omega) (by omega)
  have i0 := mi_0 I.1
  have e0 : ¬ (Int32.ofNat xs.length - 6 < nI j) := lw_no (by omega) hj
  unfold f_307_18s
  dsimp only
  rw [if_neg e0, if_pos p0, c, if_neg (show ¬ (30 : Int32) = 0 by decide), if_neg (show ¬ (30 : Int32) = 1 by decide), if_neg (show ¬ (30 : Int32) = 2 by decide), if_neg (show ¬ (30 : Int32) = 3 by decide), if_neg (show ¬ (30 : Int32) = 4 by decide), if_neg (show ¬ (30 : Int32) = 5 by decide), if_neg (show ¬ (30 : Int32) = 6 by decide), if_neg (show ¬ (30 : Int32) = 7 by decide), if_neg (show ¬ (30 : Int32) = 8 by decide), if_neg (show ¬ (30 : Int32) = 9 by decide), if_neg (show ¬ (30 : Int32) = 10 by decide), if_neg (show ¬ (30 : Int32) = 11 by decide), if_neg (show ¬ (30 : Int32) = 12 by decide), if_neg (show ¬ (30 : Int32) = 13 by decide), if_neg (show ¬ (30 : Int32) = 14 by decide), if_neg (show ¬ (30 : Int32) = 15 by decide), if_neg (show ¬ (30 : Int32) = 16 by decide), if_neg (show ¬ (30 : Int32) = 17 by decide), if_neg (show ¬ (30 : Int32) = 18 by decide), if_neg (show ¬ (30 : Int32) = 19 by decide), if_neg (show ¬ (30 : Int32) = 20 by decide), if_neg (show ¬ (30 : Int32) = 21 by decide), if_neg (show ¬ (30 : Int32) = 22 by decide), if_neg (show ¬ (30 : Int32) = 23 by decide), if_neg (show ¬ (30 : Int32) = 24 by decide), if_neg (show ¬ (30 : Int32) = 25 by decide), if_neg (show ¬ (30 : Int32) = 26 by decide), if_neg (show ¬ (30 : Int32) = 27 by decide), if_neg (show ¬ (30 : Int32) = 28 by decide), if_neg (show ¬ (30 : Int32) = 29 by decide), if_pos rfl]
  obtain ⟨x1, h1⟩ : ∃ x, xs.getD (nI j + 1).toNatClampNeg 0 = x := ⟨_, rfl⟩
  obtain ⟨x2, h2⟩ : ∃ x, xs.getD (nI j + 2).toNatClampNeg 0 = x := ⟨_, rfl⟩
  obtain ⟨x3, h3⟩ : ∃ x, xs.getD (nI j + 3).toNatClampNeg 0 = x := ⟨_, rfl⟩
  obtain ⟨x4, h4⟩ : ∃ x, xs.getD (nI j + 4).toNatClampNeg 0 = x := ⟨_, rfl⟩
  by_cases z5 : x4 = 0
  · obtain ⟨r, g2, eA, eB, k2⟩ := q_bun I (N := N) (by omega) x1 x2 x3 0
    have i1 := mi_217 I.1
    dsimp only at eB
    refine ⟨g2, ?_, ma_INV_q I k2⟩
    repeat (first | rw [if_pos p1] | rw [if_pos p2] | rw [if_pos p3] | rw [if_pos p4] | rw [if_pos p5] | rw [if_pos i0])
    rw [h1, h2, h3, h4, if_pos z5]
    unfold f_307_1584
    repeat (first | rw [if_pos p1] | rw [if_pos p2] | rw [if_pos p3] | rw [if_pos p4] | rw [if_pos p5] | rw [if_pos i0])
    rw [eA, Option.bind_some]
    repeat (first | rw [if_pos p1] | rw [if_pos p2] | rw [if_pos p3] | rw [if_pos p4] | rw [if_pos p5] | rw [if_pos i1])
    rw [h1, h2, h3, h4, if_pos z5]
    unfold f_307_1616
    repeat (first | rw [if_pos p1] | rw [if_pos p2] | rw [if_pos p3] | rw [if_pos p4] | rw [if_pos p5] | rw [if_pos i1])
    rw [eB, Option.bind_some]
    dsimp only
    rw [if_pos rfl, lH6]
  · obtain ⟨r, g2, eA, eB, k2⟩ := q_bun I (N := N) (by omega) x1 x2 x3 1
    have i1 := mi_217 I.1
    dsimp only at eB
    refine ⟨g2, ?_, ma_INV_q I k2⟩
    repeat (first | rw [if_pos p1] | rw [if_pos p2] | rw [if_pos p3] | rw [if_pos p4] | rw [if_pos p5] | rw [if_pos i0])
    rw [h1, h2, h3, h4, if_neg z5]
    unfold f_307_1584
    repeat (first | rw [if_pos p1] | rw [if_pos p2] | rw [if_pos p3] | rw [if_pos p4] | rw [if_pos p5] | rw [if_pos i0])
    rw [eA, Option.bind_some]
    repeat (first | rw [if_pos p1] | rw [if_pos p2] | rw [if_pos p3] | rw [if_pos p4] | rw [if_pos p5] | rw [if_pos i1])
    rw [h1, h2, h3, h4, if_neg z5]
    unfold f_307_1616
    repeat (first | rw [if_pos p1] | rw [if_pos p2] | rw [if_pos p3] | rw [if_pos p4] | rw [if_pos p5] | rw [if_pos i1])
    rw [eB, Option.bind_some]
    dsimp only
    rw [if_pos rfl, lH6]
theorem lw_31 (hL : xs.length ≤ 3072) (I : ma_INV h) (hN : 50000 < N) (hj : j + 6 ≤ xs.length) (c : xs.getD (nI j).toNatClampNeg 0 &&& 63 = 31) : ∃ g, f_307_18s xs N 0 217 (nI j, h) = some (.inl (nI (j + 6), g)) ∧ ma_INV g := by
  have p0 : pb_in (nI j) xs.length := lw_in0 (by omega) (by omega)
  have p1 : pb_in (nI j + 1) xs.length := lw_in (k := 1) (by omega) (by omega)
  have p2 : pb_in (nI j + 2) xs.length := lw_in (k := 2) (by omega) (by omega)
  have p3 : pb_in (nI j + 3) xs.length := lw_in (k := 3) (by omega) (by omega)
  have p4 : pb_in (nI j + 4) xs.length := lw_in (k := 4) (by omega) (by omega)
  have p5 : pb_in (nI j + 5) xs.length := lw_in (k := 5) (by omega) (by omega)
  have i0 := mi_0 I.1
  have e0 : ¬ (Int32.ofNat xs.length - 6 < nI j) := lw_no (by omega) hj
  unfold f_307_18s
  dsimp only
  rw [if_neg e0, if_pos p0, c, if_neg (show ¬ (31 : Int32) = 0 by decide), if_neg (show ¬ (31 : Int32) = 1 by decide), if_neg (show ¬ (31 : Int32) = 2 by decide), if_neg (show ¬ (31 : Int32) = 3 by decide), if_neg (show ¬ (31 : Int32) = 4 by decide), if_neg (show ¬ (31 : Int32) = 5 by decide), if_neg (show ¬ (31 : Int32) = 6 by decide), if_neg (show ¬ (31 : Int32) = 7 by decide), if_neg (show ¬ (31 : Int32) = 8 by decide), if_neg (show ¬ (31 : Int32) = 9 by decide), if_neg (show ¬ (31 : Int32) = 10 by decide), if_neg (show ¬ (31 : Int32) = 11 by decide), if_neg (show ¬ (31 : Int32) = 12 by decide), if_neg (show ¬ (31 : Int32) = 13 by decide), if_neg (show ¬ (31 : Int32) = 14 by decide), if_neg (show ¬ (31 : Int32) = 15 by decide), if_neg (show ¬ (31 : Int32) = 16 by decide), if_neg (show ¬ (31 : Int32) = 17 by decide), if_neg (show ¬ (31 : Int32) = 18 by decide), if_neg (show ¬ (31 : Int32) = 19 by decide), if_neg (show ¬ (31 : Int32) = 20 by decide), if_neg (show ¬ (31 : Int32) = 21 by decide), if_neg (show ¬ (31 : Int32) = 22 by decide), if_neg (show ¬ (31 : Int32) = 23 by decide), if_neg (show ¬ (31 : Int32) = 24 by decide), if_neg (show ¬ (31 : Int32) = 25 by decide), if_neg (show ¬ (31 : Int32) = 26 by decide), if_neg (show ¬ (31 : Int32) = 27 by decide), if_neg (show ¬ (31 : Int32) = 28 by decide), if_neg (show ¬ (31 : Int32) = 29 by decide), if_neg (show ¬ (31 : Int32) = 30 by decide), if_pos rfl]
  obtain ⟨x1, h1⟩ : ∃ x, xs.getD (nI j + 1).toNatClampNeg 0 = x := ⟨_, rfl⟩
  obtain ⟨x2, h2⟩ : ∃ x, xs.getD (nI j + 2).toNatClampNeg 0 = x := ⟨_, rfl⟩
  obtain ⟨r, g, g2, eA, k1, eB, k2⟩ := q_wings I (N := N) (by omega) x1 x2
  have i1 := mi_217 (ma_H_q I.1 k1)
  dsimp only at eB
  refine ⟨g2, ?_, ma_INV_q (ma_INV_q I k1) k2⟩
  repeat (first | rw [if_pos p1] | rw [if_pos p2] | rw [if_pos p3] | rw [if_pos p4] | rw [if_pos p5] | rw [if_pos i0])
  rw [h1, h2, eA, Option.bind_some]
  dsimp only
  repeat (first | rw [if_pos p1] | rw [if_pos p2] | rw [if_pos p3] | rw [if_pos p4] | rw [if_pos p5] | rw [if_pos i1])
  rw [eB, Option.bind_some]
  dsimp only
  rw [if_pos rfl, lH6]
theorem lw_32 (hL : xs.length ≤ 3072) (I : ma_INV h) (hN : 50000 < N) (hj : j + 6 ≤ xs.length) (c : xs.getD (nI j).toNatClampNeg 0 &&& 63 = 32) : ∃ g, f_307_18s xs N 0 217 (nI j, h) = some (.inl (nI (j + 6), g)) ∧ ma_INV g := by
  have p0 : pb_in (nI j) xs.length := lw_in0 (by omega) (by omega)
  have p1 : pb_in (nI j + 1) xs.length := lw_in (k := 1) (by omega) (by omega)
  have p2 : pb_in (nI j + 2) xs.length := lw_in (k := 2) (by omega) (by omega)
  have p3 : pb_in (nI j + 3) xs.length := lw_in (k := 3) (by omega) (by omega)
  have p4 : pb_in (nI j + 4) xs.length := lw_in (k := 4) (by omega) (by omega)
  have p5 : pb_in (nI j + 5) xs.length := lw_in (k := 5) (by omega) (by omega)
  have i0 := mi_0 I.1
  have e0 : ¬ (Int32.ofNat xs.length - 6 < nI j) := lw_no (by omega) hj
  unfold f_307_18s
  dsimp only
  rw [if_neg e0, if_pos p0, c, if_neg (show ¬ (32 : Int32) = 0 by decide), if_neg (show ¬ (32 : Int32) = 1 by decide), if_neg (show ¬ (32 : Int32) = 2 by decide), if_neg (show ¬ (32 : Int32) = 3 by decide), if_neg (show ¬ (32 : Int32) = 4 by decide), if_neg (show ¬ (32 : Int32) = 5 by decide), if_neg (show ¬ (32 : Int32) = 6 by decide), if_neg (show ¬ (32 : Int32) = 7 by decide), if_neg (show ¬ (32 : Int32) = 8 by decide), if_neg (show ¬ (32 : Int32) = 9 by decide), if_neg (show ¬ (32 : Int32) = 10 by decide), if_neg (show ¬ (32 : Int32) = 11 by decide), if_neg (show ¬ (32 : Int32) = 12 by decide), if_neg (show ¬ (32 : Int32) = 13 by decide), if_neg (show ¬ (32 : Int32) = 14 by decide), if_neg (show ¬ (32 : Int32) = 15 by decide), if_neg (show ¬ (32 : Int32) = 16 by decide), if_neg (show ¬ (32 : Int32) = 17 by decide), if_neg (show ¬ (32 : Int32) = 18 by decide), if_neg (show ¬ (32 : Int32) = 19 by decide), if_neg (show ¬ (32 : Int32) = 20 by decide), if_neg (show ¬ (32 : Int32) = 21 by decide), if_neg (show ¬ (32 : Int32) = 22 by decide), if_neg (show ¬ (32 : Int32) = 23 by decide), if_neg (show ¬ (32 : Int32) = 24 by decide), if_neg (show ¬ (32 : Int32) = 25 by decide), if_neg (show ¬ (32 : Int32) = 26 by decide), if_neg (show ¬ (32 : Int32) = 27 by decide), if_neg (show ¬ (32 : Int32) = 28 by decide), if_neg (show ¬ (32 : Int32) = 29 by decide), if_neg (show ¬ (32 : Int32) = 30 by decide), if_neg (show ¬ (32 : Int32) = 31 by decide), if_pos rfl]
  obtain ⟨x1, h1⟩ : ∃ x, xs.getD (nI j + 1).toNatClampNeg 0 = x := ⟨_, rfl⟩
  obtain ⟨x2, h2⟩ : ∃ x, xs.getD (nI j + 2).toNatClampNeg 0 = x := ⟨_, rfl⟩
  obtain ⟨x3, h3⟩ : ∃ x, xs.getD (nI j + 3).toNatClampNeg 0 = x := ⟨_, rfl⟩
  by_cases z5 : x3 = 0
  · obtain ⟨r, g, g2, eA, k1, eB, k2⟩ := q_later I (N := N) (by omega) x1 x2 0
    have i1 := mi_217 (ma_H_q I.1 k1)
    dsimp only at eB
    refine ⟨g2, ?_, ma_INV_q (ma_INV_q I k1) k2⟩
    repeat (first | rw [if_pos p1] | rw [if_pos p2] | rw [if_pos p3] | rw [if_pos p4] | rw [if_pos p5] | rw [if_pos i0])
    rw [h1, h2, h3, if_pos z5]
    unfold f_307_1681
    repeat (first | rw [if_pos p1] | rw [if_pos p2] | rw [if_pos p3] | rw [if_pos p4] | rw [if_pos p5] | rw [if_pos i0])
    rw [eA, Option.bind_some]
    dsimp only
    repeat (first | rw [if_pos p1] | rw [if_pos p2] | rw [if_pos p3] | rw [if_pos p4] | rw [if_pos p5] | rw [if_pos i1])
    rw [h1, h2, h3, if_pos z5]
    unfold f_307_1708
    repeat (first | rw [if_pos p1] | rw [if_pos p2] | rw [if_pos p3] | rw [if_pos p4] | rw [if_pos p5] | rw [if_pos i1])
    rw [eB, Option.bind_some]
    dsimp only
    rw [if_pos rfl, lH6]
  · obtain ⟨r, g, g2, eA, k1, eB, k2⟩ := q_later I (N := N) (by omega) x1 x2 1
    have i1 := mi_217 (ma_H_q I.1 k1)
    dsimp only at eB
    refine ⟨g2, ?_, ma_INV_q (ma_INV_q I k1) k2⟩
    repeat (first | rw [if_pos p1] | rw [if_pos p2] | rw [if_pos p3] | rw [if_pos p4] | rw [if_pos p5] | rw [if_pos i0])
    rw [h1, h2, h3, if_neg z5]
    unfold f_307_1681
    repeat (first | rw [if_pos p1] | rw [if_pos p2] | rw [if_pos p3] | rw [if_pos p4] | rw [if_pos p5] | rw [if_pos i0])
    rw [eA, Option.bind_some]
    dsimp only
    repeat (first | rw [if_pos p1] | rw [if_pos p2] | rw [if_pos p3] | rw [if_pos p4] | rw [if_pos p5] | rw [if_pos i1])
    rw [h1, h2, h3, if_neg z5]
    unfold f_307_1708
    repeat (first | rw [if_pos p1] | rw [if_pos p2] | rw [if_pos p3] | rw [if_pos p4] | rw [if_pos p5] | rw [if_pos i1])
    rw [eB, Option.bind_some]
    dsimp only
    rw [if_pos rfl, lH6]
theorem lw_33 (hL : xs.length ≤ 3072) (I : ma_INV h) (hN : 50000 < N) (hj : j + 6 ≤ xs.length) (c : xs.getD (nI j).toNatClampNeg 0 &&& 63 = 33) : ∃ g, f_307_18s xs N 0 217 (nI j, h) = some (.inl (nI (j + 6), g)) ∧ ma_INV g := by
  have p0 : pb_in (nI j) xs.length := lw_in0 (by omega) (by omega)
  have p1 : pb_in (nI j + 1) xs.length := lw_in (k := 1) (by omega) (by omega)
  have p2 : pb_in (nI j + 2) xs.length := lw_in (k := 2) (by omega) (by omega)
  have p3 : pb_in (nI j + 3) xs.length := lw_in (k := 3) (by omega) (by omega)
  have p4 : pb_in (nI j + 4) xs.length := lw_in (k := 4) (by omega) (by omega)
  have p5 : pb_in (nI j + 5) xs.length := lw_in (k := 5) (by omega) (by omega)
  have i0 := mi_0 I.1
  have e0 : ¬ (Int32.ofNat xs.length - 6 < nI j) := lw_no (by omega) hj
  unfold f_307_18s
  dsimp only
  rw [if_neg e0, if_pos p0, c, if_neg (show ¬ (33 : Int32) = 0 by decide), if_neg (show ¬ (33 : Int32) = 1 by decide), if_neg (show ¬ (33 : Int32) = 2 by decide), if_neg (show ¬ (33 : Int32) = 3 by decide), if_neg (show ¬ (33 : Int32) = 4 by decide), if_neg (show ¬ (33 : Int32) = 5 by decide), if_neg (show ¬ (33 : Int32) = 6 by decide), if_neg (show ¬ (33 : Int32) = 7 by decide), if_neg (show ¬ (33 : Int32) = 8 by decide), if_neg (show ¬ (33 : Int32) = 9 by decide), if_neg (show ¬ (33 : Int32) = 10 by decide), if_neg (show ¬ (33 : Int32) = 11 by decide), if_neg (show ¬ (33 : Int32) = 12 by decide), if_neg (show ¬ (33 : Int32) = 13 by decide), if_neg (show ¬ (33 : Int32) = 14 by decide), if_neg (show ¬ (33 : Int32) = 15 by decide), if_neg (show ¬ (33 : Int32) = 16 by decide), if_neg (show ¬ (33 : Int32) = 17 by decide), if_neg (show ¬ (33 : Int32) = 18 by decide), if_neg (show ¬ (33 : Int32) = 19 by decide), if_neg (show ¬ (33 : Int32) = 20 by decide), if_neg (show ¬ (33 : Int32) = 21 by decide), if_neg (show ¬ (33 : Int32) = 22 by decide), if_neg (show ¬ (33 : Int32) = 23 by decide), if_neg (show ¬ (33 : Int32) = 24 by decide), if_neg (show ¬ (33 : Int32) = 25 by decide), if_neg (show ¬ (33 : Int32) = 26 by decide), if_neg (show ¬ (33 : Int32) = 27 by decide), if_neg (show ¬ (33 : Int32) = 28 by decide), if_neg (show ¬ (33 : Int32) = 29 by decide), if_neg (show ¬ (33 : Int32) = 30 by decide), if_neg (show ¬ (33 : Int32) = 31 by decide), if_neg (show ¬ (33 : Int32) = 32 by decide), if_pos rfl]
  obtain ⟨x1, h1⟩ : ∃ x, xs.getD (nI j + 1).toNatClampNeg 0 = x := ⟨_, rfl⟩
  obtain ⟨x2, h2⟩ : ∃ x, xs.getD (nI j + 2).toNatClampNeg 0 = x := ⟨_, rfl⟩
  obtain ⟨x3, h3⟩ : ∃ x, xs.getD (nI j + 3).toNatClampNeg 0 = x := ⟨_, rfl⟩
  by_cases z5 : x3 = 0
  · obtain ⟨r, g, g2, eA, k1, eB, k2⟩ := q_fewest I (N := N) (by omega) x1 x2 0
    have i1 := mi_217 (ma_H_q I.1 k1)
    dsimp only at eB
    refine ⟨g2, ?_, ma_INV_q (ma_INV_q I k1) k2⟩
    repeat (first | rw [if_pos p1] | rw [if_pos p2] | rw [if_pos p3] | rw [if_pos p4] | rw [if_pos p5] | rw [if_pos i0])
    rw [h1, h2, h3, if_pos z5]
    unfold f_307_1740
    repeat (first | rw [if_pos p1] | rw [if_pos p2] | rw [if_pos p3] | rw [if_pos p4] | rw [if_pos p5] | rw [if_pos i0])
    rw [eA, Option.bind_some]
    dsimp only
    repeat (first | rw [if_pos p1] | rw [if_pos p2] | rw [if_pos p3] | rw [if_pos p4] | rw [if_pos p5] | rw [if_pos i1])
    rw [h1, h2, h3, if_pos z5]
    unfold f_307_1767
    repeat (first | rw [if_pos p1] | rw [if_pos p2] | rw [if_pos p3] | rw [if_pos p4] | rw [if_pos p5] | rw [if_pos i1])
    rw [eB, Option.bind_some]
    dsimp only
    rw [if_pos rfl, lH6]
  · obtain ⟨r, g, g2, eA, k1, eB, k2⟩ := q_fewest I (N := N) (by omega) x1 x2 1
    have i1 := mi_217 (ma_H_q I.1 k1)
    dsimp only at eB
    refine ⟨g2, ?_, ma_INV_q (ma_INV_q I k1) k2⟩
    repeat (first | rw [if_pos p1] | rw [if_pos p2] | rw [if_pos p3] | rw [if_pos p4] | rw [if_pos p5] | rw [if_pos i0])
    rw [h1, h2, h3, if_neg z5]
    unfold f_307_1740
    repeat (first | rw [if_pos p1] | rw [if_pos p2] | rw [if_pos p3] | rw [if_pos p4] | rw [if_pos p5] | rw [if_pos i0])
    rw [eA, Option.bind_some]
    dsimp only
    repeat (first | rw [if_pos p1] | rw [if_pos p2] | rw [if_pos p3] | rw [if_pos p4] | rw [if_pos p5] | rw [if_pos i1])
    rw [h1, h2, h3, if_neg z5]
    unfold f_307_1767
    repeat (first | rw [if_pos p1] | rw [if_pos p2] | rw [if_pos p3] | rw [if_pos p4] | rw [if_pos p5] | rw [if_pos i1])
    rw [eB, Option.bind_some]
    dsimp only
    rw [if_pos rfl, lH6]
theorem lw_34 (hL : xs.length ≤ 3072) (I : ma_INV h) (hN : 50000 < N) (hj : j + 6 ≤ xs.length) (c : xs.getD (nI j).toNatClampNeg 0 &&& 63 = 34) : ∃ g, f_307_18s xs N 0 217 (nI j, h) = some (.inl (nI (j + 6), g)) ∧ ma_INV g := by
  have p0 : pb_in (nI j) xs.length := lw_in0 (by omega) (by omega)
  have p1 : pb_in (nI j + 1) xs.length := lw_in (k := 1) (by omega) (by omega)
  have p2 : pb_in (nI j + 2) xs.length := lw_in (k := 2) (by omega) (by omega)
  have p3 : pb_in (nI j + 3) xs.length := lw_in (k := 3) (by omega) (by omega)
  have p4 : pb_in (nI j + 4) xs.length := lw_in (k := 4) (by omega) (by omega)
  have p5 : pb_in (nI j + 5) xs.length := lw_in (k := 5) (by omega) (by omega)
  have i0 := mi_0 I.1
  have e0 : ¬ (Int32.ofNat xs.length - 6 < nI j) := lw_no (by omega) hj
  unfold f_307_18s
  dsimp only
  rw [if_neg e0, if_pos p0, c, if_neg (show ¬ (34 : Int32) = 0 by decide), if_neg (show ¬ (34 : Int32) = 1 by decide), if_neg (show ¬ (34 : Int32) = 2 by decide), if_neg (show ¬ (34 : Int32) = 3 by decide), if_neg (show ¬ (34 : Int32) = 4 by decide), if_neg (show ¬ (34 : Int32) = 5 by decide), if_neg (show ¬ (34 : Int32) = 6 by decide), if_neg (show ¬ (34 : Int32) = 7 by decide), if_neg (show ¬ (34 : Int32) = 8 by decide), if_neg (show ¬ (34 : Int32) = 9 by decide), if_neg (show ¬ (34 : Int32) = 10 by decide), if_neg (show ¬ (34 : Int32) = 11 by decide), if_neg (show ¬ (34 : Int32) = 12 by decide), if_neg (show ¬ (34 : Int32) = 13 by decide), if_neg (show ¬ (34 : Int32) = 14 by decide), if_neg (show ¬ (34 : Int32) = 15 by decide), if_neg (show ¬ (34 : Int32) = 16 by decide), if_neg (show ¬ (34 : Int32) = 17 by decide), if_neg (show ¬ (34 : Int32) = 18 by decide), if_neg (show ¬ (34 : Int32) = 19 by decide), if_neg (show ¬ (34 : Int32) = 20 by decide), if_neg (show ¬ (34 : Int32) = 21 by decide), if_neg (show ¬ (34 : Int32) = 22 by decide), if_neg (show ¬ (34 : Int32) = 23 by decide), if_neg (show ¬ (34 : Int32) = 24 by decide), if_neg (show ¬ (34 : Int32) = 25 by decide), if_neg (show ¬ (34 : Int32) = 26 by decide), if_neg (show ¬ (34 : Int32) = 27 by decide), if_neg (show ¬ (34 : Int32) = 28 by decide), if_neg (show ¬ (34 : Int32) = 29 by decide), if_neg (show ¬ (34 : Int32) = 30 by decide), if_neg (show ¬ (34 : Int32) = 31 by decide), if_neg (show ¬ (34 : Int32) = 32 by decide), if_neg (show ¬ (34 : Int32) = 33 by decide), if_pos rfl]
  obtain ⟨x1, h1⟩ : ∃ x, xs.getD (nI j + 1).toNatClampNeg 0 = x := ⟨_, rfl⟩
  obtain ⟨x2, h2⟩ : ∃ x, xs.getD (nI j + 2).toNatClampNeg 0 = x := ⟨_, rfl⟩
  obtain ⟨x3, h3⟩ : ∃ x, xs.getD (nI j + 3).toNatClampNeg 0 = x := ⟨_, rfl⟩
  obtain ⟨r, g, g2, eA, k1, eB, k2⟩ := q_after I (N := N) (by omega) x1 x2 x3
  have i1 := mi_217 (ma_H_q I.1 k1)
  dsimp only at eB
  refine ⟨g2, ?_, ma_INV_q (ma_INV_q I k1) k2⟩
  repeat (first | rw [if_pos p1] | rw [if_pos p2] | rw [if_pos p3] | rw [if_pos p4] | rw [if_pos p5] | rw [if_pos i0])
  rw [h1, h2, h3, eA, Option.bind_some]
  dsimp only
  repeat (first | rw [if_pos p1] | rw [if_pos p2] | rw [if_pos p3] | rw [if_pos p4] | rw [if_pos p5] | rw [if_pos i1])
  rw [eB, Option.bind_some]
  dsimp only
  rw [if_pos rfl, lH6]
theorem lw_35 (hL : xs.length ≤ 3072) (I : ma_INV h) (hN : 50000 < N) (hj : j + 6 ≤ xs.length) (c : xs.getD (nI j).toNatClampNeg 0 &&& 63 = 35) : ∃ g, f_307_18s xs N 0 217 (nI j, h) = some (.inl (nI (j + 6), g)) ∧ ma_INV g := by
  have p0 : pb_in (nI j) xs.length := lw_in0 (by omega) (by omega)
  have p1 : pb_in (nI j + 1) xs.length := lw_in (k := 1) (by omega) (by omega)
  have p2 : pb_in (nI j + 2) xs.length := lw_in (k := 2) (by omega) (by omega)
  have p3 : pb_in (nI j + 3) xs.length := lw_in (k := 3) (by omega) (by omega)
  have p4 : pb_in (nI j + 4) xs.length := lw_in (k := 4) (by omega) (by omega)
  have p5 : pb_in (nI j + 5) xs.length := lw_in (k := 5) (by omega) (by omega)
  have i0 := mi_0 I.1
  have e0 : ¬ (Int32.ofNat xs.length - 6 < nI j) := lw_no (by omega) hj
  unfold f_307_18s
  dsimp only
  rw [if_neg e0, if_pos p0, c, if_neg (show ¬ (35 : Int32) = 0 by decide), if_neg (show ¬ (35 : Int32) = 1 by decide), if_neg (show ¬ (35 : Int32) = 2 by decide), if_neg (show ¬ (35 : Int32) = 3 by decide), if_neg (show ¬ (35 : Int32) = 4 by decide), if_neg (show ¬ (35 : Int32) = 5 by decide), if_neg (show ¬ (35 : Int32) = 6 by decide), if_neg (show ¬ (35 : Int32) = 7 by decide), if_neg (show ¬ (35 : Int32) = 8 by decide), if_neg (show ¬ (35 : Int32) = 9 by decide), if_neg (show ¬ (35 : Int32) = 10 by decide), if_neg (show ¬ (35 : Int32) = 11 by decide), if_neg (show ¬ (35 : Int32) = 12 by decide), if_neg (show ¬ (35 : Int32) = 13 by decide), if_neg (show ¬ (35 : Int32) = 14 by decide), if_neg (show ¬ (35 : Int32) = 15 by decide), if_neg (show ¬ (35 : Int32) = 16 by decide), if_neg (show ¬ (35 : Int32) = 17 by decide), if_neg (show ¬ (35 : Int32) = 18 by decide), if_neg (show ¬ (35 : Int32) = 19 by decide), if_neg (show ¬ (35 : Int32) = 20 by decide), if_neg (show ¬ (35 : Int32) = 21 by decide), if_neg (show ¬ (35 : Int32) = 22 by decide), if_neg (show ¬ (35 : Int32) = 23 by decide), if_neg (show ¬ (35 : Int32) = 24 by decide), if_neg (show ¬ (35 : Int32) = 25 by decide), if_neg (show ¬ (35 : Int32) = 26 by decide), if_neg (show ¬ (35 : Int32) = 27 by decide), if_neg (show ¬ (35 : Int32) = 28 by decide), if_neg (show ¬ (35 : Int32) = 29 by decide), if_neg (show ¬ (35 : Int32) = 30 by decide), if_neg (show ¬ (35 : Int32) = 31 by decide), if_neg (show ¬ (35 : Int32) = 32 by decide), if_neg (show ¬ (35 : Int32) = 33 by decide), if_neg (show ¬ (35 : Int32) = 34 by decide), if_pos rfl]
  obtain ⟨x1, h1⟩ : ∃ x, xs.getD (nI j + 1).toNatClampNeg 0 = x := ⟨_, rfl⟩
  obtain ⟨x2, h2⟩ : ∃ x, xs.getD (nI j + 2).toNatClampNeg 0 = x := ⟨_, rfl⟩
  obtain ⟨x3, h3⟩ : ∃ x, xs.getD (nI j + 3).toNatClampNeg 0 = x := ⟨_, rfl⟩
  obtain ⟨x4, h4⟩ : ∃ x, xs.getD (nI j + 4).toNatClampNeg 0 = x := ⟨_, rfl⟩
  by_cases z5 : x4 = 0
  · obtain ⟨r, g, g2, eA, k1, eB, k2⟩ := q_odds I (N := N) (by omega) x1 x2 x3 0
    have i1 := mi_217 (ma_H_q I.1 k1)
    dsimp only at eB
    refine ⟨g2, ?_, ma_INV_q (ma_INV_q I k1) k2⟩
    repeat (first | rw [if_pos p1] | rw [if_pos p2] | rw [if_pos p3] | rw [if_pos p4] | rw [if_pos p5] | rw [if_pos i0])
    rw [h1, h2, h3, h4, if_pos z5]
    unfold f_307_1847
    repeat (first | rw [if_pos p1] | rw [if_pos p2] | rw [if_pos p3] | rw [if_pos p4] | rw [if_pos p5] | rw [if_pos i0])
    rw [eA, Option.bind_some]
    dsimp only
    repeat (first | rw [if_pos p1] | rw [if_pos p2] | rw [if_pos p3] | rw [if_pos p4] | rw [if_pos p5] | rw [if_pos i1])
    rw [h1, h2, h3, h4, if_pos z5]
    unfold f_307_1879
    repeat (first | rw [if_pos p1] | rw [if_pos p2] | rw [if_pos p3] | rw [if_pos p4] | rw [if_pos p5] | rw [if_pos i1])
    rw [eB, Option.bind_some]
    dsimp only
    rw [if_pos ((tx_cmp _ _).mpr rfl), lH6]
  · obtain ⟨r, g, g2, eA, k1, eB, k2⟩ := q_odds I (N := N) (by omega) x1 x2 x3 1
    have i1 := mi_217 (ma_H_q I.1 k1)
    dsimp only at eB
    refine ⟨g2, ?_, ma_INV_q (ma_INV_q I k1) k2⟩
    repeat (first | rw [if_pos p1] | rw [if_pos p2] | rw [if_pos p3] | rw [if_pos p4] | rw [if_pos p5] | rw [if_pos i0])
    rw [h1, h2, h3, h4, if_neg z5]
    unfold f_307_1847
    repeat (first | rw [if_pos p1] | rw [if_pos p2] | rw [if_pos p3] | rw [if_pos p4] | rw [if_pos p5] | rw [if_pos i0])
    rw [eA, Option.bind_some]
    dsimp only
    repeat (first | rw [if_pos p1] | rw [if_pos p2] | rw [if_pos p3] | rw [if_pos p4] | rw [if_pos p5] | rw [if_pos i1])
    rw [h1, h2, h3, h4, if_neg z5]
    unfold f_307_1879
    repeat (first | rw [if_pos p1] | rw [if_pos p2] | rw [if_pos p3] | rw [if_pos p4] | rw [if_pos p5] | rw [if_pos i1])
    rw [eB, Option.bind_some]
    dsimp only
    rw [if_pos ((tx_cmp _ _).mpr rfl), lH6]
theorem lw_36 (hL : xs.length ≤ 3072) (I : ma_INV h) (hN : 50000 < N) (hj : j + 6 ≤ xs.length) (c : xs.getD (nI j).toNatClampNeg 0 &&& 63 = 36) : ∃ g, f_307_18s xs N 0 217 (nI j, h) = some (.inl (nI (j + 6), g)) ∧ ma_INV g := by
  have p0 : pb_in (nI j) xs.length := lw_in0 (by omega) (by omega)
  have p1 : pb_in (nI j + 1) xs.length := lw_in (k := 1) (by omega) (by omega)
  have p2 : pb_in (nI j + 2) xs.length := lw_in (k := 2) (by omega) (by omega)
  have p3 : pb_in (nI j + 3) xs.length := lw_in (k := 3) (by omega) (by omega)
  have p4 : pb_in (nI j + 4) xs.length := lw_in (k := 4) (by omega) (by omega)
  have p5 : pb_in (nI j + 5) xs.length := lw_in (k := 5) (by omega) (by omega)
  have i0 := mi_0 I.1
  have e0 : ¬ (Int32.ofNat xs.length - 6 < nI j) := lw_no (by omega) hj
  unfold f_307_18s
  dsimp only
  rw [if_neg e0, if_pos p0, c, if_neg (show ¬ (36 : Int32) = 0 by decide), if_neg (show ¬ (36 : Int32) = 1 by decide), if_neg (show ¬ (36 : Int32) = 2 by decide), if_neg (show ¬ (36 : Int32) = 3 by decide), if_neg (show ¬ (36 : Int32) = 4 by decide), if_neg (show ¬ (36 : Int32) = 5 by decide), if_neg (show ¬ (36 : Int32) = 6 by decide), if_neg (show ¬ (36 : Int32) = 7 by decide), if_neg (show ¬ (36 : Int32) = 8 by decide), if_neg (show ¬ (36 : Int32) = 9 by decide), if_neg (show ¬ (36 : Int32) = 10 by decide), if_neg (show ¬ (36 : Int32) = 11 by decide), if_neg (show ¬ (36 : Int32) = 12 by decide), if_neg (show ¬ (36 : Int32) = 13 by decide), if_neg (show ¬ (36 : Int32) = 14 by decide), if_neg (show ¬ (36 : Int32) = 15 by decide), if_neg (show ¬ (36 : Int32) = 16 by decide), if_neg (show ¬ (36 : Int32) = 17 by decide), if_neg (show ¬ (36 : Int32) = 18 by decide), if_neg (show ¬ (36 : Int32) = 19 by decide), if_neg (show ¬ (36 : Int32) = 20 by decide), if_neg (show ¬ (36 : Int32) = 21 by decide), if_neg (show ¬ (36 : Int32) = 22 by decide), if_neg (show ¬ (36 : Int32) = 23 by decide), if_neg (show ¬ (36 : Int32) = 24 by decide), if_neg (show ¬ (36 : Int32) = 25 by decide), if_neg (show ¬ (36 : Int32) = 26 by decide), if_neg (show ¬ (36 : Int32) = 27 by decide), if_neg (show ¬ (36 : Int32) = 28 by decide), if_neg (show ¬ (36 : Int32) = 29 by decide), if_neg (show ¬ (36 : Int32) = 30 by decide), if_neg (show ¬ (36 : Int32) = 31 by decide), if_neg (show ¬ (36 : Int32) = 32 by decide), if_neg (show ¬ (36 : Int32) = 33 by decide), if_neg (show ¬ (36 : Int32) = 34 by decide), if_neg (show ¬ (36 : Int32) = 35 by decide), if_pos rfl]
  obtain ⟨x1, h1⟩ : ∃ x, xs.getD (nI j + 1).toNatClampNeg 0 = x := ⟨_, rfl⟩
  obtain ⟨x2, h2⟩ : ∃ x, xs.getD (nI j + 2).toNatClampNeg 0 = x := ⟨_, rfl⟩
  by_cases z5 : x2 = 0
  · obtain ⟨r, g, g2, eA, k1, eB, k2⟩ := q_low I (N := N) (by omega) x1 0
    have i1 := mi_217 (ma_H_q I.1 k1)
    dsimp only at eB
    refine ⟨g2, ?_, ma_INV_q (ma_INV_q I k1) k2⟩
    repeat (first | rw [if_pos p1] | rw [if_pos p2] | rw [if_pos p3] | rw [if_pos p4] | rw [if_pos p5] | rw [if_pos i0])
    rw [h1, h2, if_pos z5]
    unfold f_307_1907
    repeat (first | rw [if_pos p1] | rw [if_pos p2] | rw [if_pos p3] | rw [if_pos p4] | rw [if_pos p5] | rw [if_pos i0])
    rw [eA, Option.bind_some]
    dsimp only
    repeat (first | rw [if_pos p1] | rw [if_pos p2] | rw [if_pos p3] | rw [if_pos p4] | rw [if_pos p5] | rw [if_pos i1])
    rw [h1, h2, if_pos z5]
    unfold f_307_1929
    repeat (first | rw [if_pos p1] | rw [if_pos p2] | rw [if_pos p3] | rw [if_pos p4] | rw [if_pos p5] | rw [if_pos i1])
    rw [eB, Option.bind_some]
    dsimp only
    rw [if_pos rfl, lH6]
  · obtain ⟨r, g, g2, eA, k1, eB, k2⟩ := q_low I (N := N) (by omega) x1 1
    have i1 := mi_217 (ma_H_q I.1 k1)
    dsimp only at eB
    refine ⟨g2, ?_, ma_INV_q (ma_INV_q I k1) k2⟩
    repeat (first | rw [if_pos p1] | rw [if_pos p2] | rw [if_pos p3] | rw [if_pos p4] | rw [if_pos p5] | rw [if_pos i0])
    rw [h1, h2, if_neg z5]
    unfold f_307_1907
    repeat (first | rw [if_pos p1] | rw [if_pos p2] | rw [if_pos p3] | rw [if_pos p4] | rw [if_pos p5] | rw [if_pos i0])
    rw [eA, Option.bind_some]
    dsimp only
    repeat (first | rw [if_pos p1] | rw [if_pos p2] | rw [if_pos p3] | rw [if_pos p4] | rw [if_pos p5] | rw [if_pos i1])
    rw [h1, h2, if_neg z5]
    unfold f_307_1929
    repeat (first | rw [if_pos p1] | rw [if_pos p2] | rw [if_pos p3] | rw [if_pos p4] | rw [if_pos p5] | rw [if_pos i1])
    rw [eB, Option.bind_some]
    dsimp only
    rw [if_pos rfl, lH6]
theorem lw_37 (hL : xs.length ≤ 3072) (I : ma_INV h) (hN : 50000 < N) (hj : j + 6 ≤ xs.length) (c : xs.getD (nI j).toNatClampNeg 0 &&& 63 = 37) : ∃ g, f_307_18s xs N 0 217 (nI j, h) = some (.inl (nI (j + 6), g)) ∧ ma_INV g := by
  have p0 : pb_in (nI j) xs.length := lw_in0 (by omega) (by omega)
  have p1 : pb_in (nI j + 1) xs.length := lw_in (k := 1) (by omega) (by omega)
  have p2 : pb_in (nI j + 2) xs.length := lw_in (k := 2) (by omega) (by omega)
  have p3 : pb_in (nI j + 3) xs.length := lw_in (k := 3) (by omega) (by omega)
  have p4 : pb_in (nI j + 4) xs.length := lw_in (k := 4) (by omega) (by omega)
  have p5 : pb_in (nI j + 5) xs.length := lw_in (k := 5) (by omega) (by omega)
  have i0 := mi_0 I.1
  have e0 : ¬ (Int32.ofNat xs.length - 6 < nI j) := lw_no (by omega) hj
  unfold f_307_18s
  dsimp only
  rw [if_neg e0, if_pos p0, c, if_neg (show ¬ (37 : Int32) = 0 by decide), if_neg (show ¬ (37 : Int32) = 1 by decide), if_neg (show ¬ (37 : Int32) = 2 by decide), if_neg (show ¬ (37 : Int32) = 3 by decide), if_neg (show ¬ (37 : Int32) = 4 by decide), if_neg (show ¬ (37 : Int32) = 5 by decide), if_neg (show ¬ (37 : Int32) = 6 by decide), if_neg (show ¬ (37 : Int32) = 7 by decide), if_neg (show ¬ (37 : Int32) = 8 by decide), if_neg (show ¬ (37 : Int32) = 9 by decide), if_neg (show ¬ (37 : Int32) = 10 by decide), if_neg (show ¬ (37 : Int32) = 11 by decide), if_neg (show ¬ (37 : Int32) = 12 by decide), if_neg (show ¬ (37 : Int32) = 13 by decide), if_neg (show ¬ (37 : Int32) = 14 by decide), if_neg (show ¬ (37 : Int32) = 15 by decide), if_neg (show ¬ (37 : Int32) = 16 by decide), if_neg (show ¬ (37 : Int32) = 17 by decide), if_neg (show ¬ (37 : Int32) = 18 by decide), if_neg (show ¬ (37 : Int32) = 19 by decide), if_neg (show ¬ (37 : Int32) = 20 by decide), if_neg (show ¬ (37 : Int32) = 21 by decide), if_neg (show ¬ (37 : Int32) = 22 by decide), if_neg (show ¬ (37 : Int32) = 23 by decide), if_neg (show ¬ (37 : Int32) = 24 by decide), if_neg (show ¬ (37 : Int32) = 25 by decide), if_neg (show ¬ (37 : Int32) = 26 by decide), if_neg (show ¬ (37 : Int32) = 27 by decide), if_neg (show ¬ (37 : Int32) = 28 by decide), if_neg (show ¬ (37 : Int32) = 29 by decide), if_neg (show ¬ (37 : Int32) = 30 by decide), if_neg (show ¬ (37 : Int32) = 31 by decide), if_neg (show ¬ (37 : Int32) = 32 by decide), if_neg (show ¬ (37 : Int32) = 33 by decide), if_neg (show ¬ (37 : Int32) = 34 by decide), if_neg (show ¬ (37 : Int32) = 35 by decide), if_neg (show ¬ (37 : Int32) = 36 by decide), if_pos rfl]
  obtain ⟨x1, h1⟩ : ∃ x, xs.getD (nI j + 1).toNatClampNeg 0 = x := ⟨_, rfl⟩
  obtain ⟨r, g2, eA, eB, k2⟩ := q_count I x1
  have i1 := mi_217 I.1
  dsimp only at eB
  refine ⟨g2, ?_, ma_INV_q I k2⟩
  repeat (first | rw [if_pos p1] | rw [if_pos p2] | rw [if_pos p3] | rw [if_pos p4] | rw [if_pos p5] | rw [if_pos i0])
  rw [h1, eA, Option.bind_some]
  repeat (first | rw [if_pos p1] | rw [if_pos p2] | rw [if_pos p3] | rw [if_pos p4] | rw [if_pos p5] | rw [if_pos i1])
  rw [eB, Option.bind_some]
  dsimp only
  rw [if_pos rfl, lH6]
theorem lw_38 (hL : xs.length ≤ 3072) (I : ma_INV h) (hN : 50000 < N) (hj : j + 6 ≤ xs.length) (c : xs.getD (nI j).toNatClampNeg 0 &&& 63 = 38) : ∃ g, f_307_18s xs N 0 217 (nI j, h) = some (.inl (nI (j + 6), g)) ∧ ma_INV g := by
  have p0 : pb_in (nI j) xs.length := lw_in0 (by omega) (by omega)
  have p1 : pb_in (nI j + 1) xs.length := lw_in (k := 1) (by omega) (by omega)
  have p2 : pb_in (nI j + 2) xs.length := lw_in (k := 2) (by omega) (by omega)
  have p3 : pb_in (nI j + 3) xs.length := lw_in (k := 3) (by omega) (by omega)
  have p4 : pb_in (nI j + 4) xs.length := lw_in (k := 4) (by omega) (by omega)
  have p5 : pb_in (nI j + 5) xs.length := lw_in (k := 5) (by omega) (by omega)
  have i0 := mi_0 I.1
  have e0 : ¬ (Int32.ofNat xs.length - 6 < nI j) := lw_no (by omega) hj
  unfold f_307_18s
  dsimp only
  rw [if_neg e0, if_pos p0, c, if_neg (show ¬ (38 : Int32) = 0 by decide), if_neg (show ¬ (38 : Int32) = 1 by decide), if_neg (show ¬ (38 : Int32) = 2 by decide), if_neg (show ¬ (38 : Int32) = 3 by decide), if_neg (show ¬ (38 : Int32) = 4 by decide), if_neg (show ¬ (38 : Int32) = 5 by decide), if_neg (show ¬ (38 : Int32) = 6 by decide), if_neg (show ¬ (38 : Int32) = 7 by decide), if_neg (show ¬ (38 : Int32) = 8 by decide), if_neg (show ¬ (38 : Int32) = 9 by decide), if_neg (show ¬ (38 : Int32) = 10 by decide), if_neg (show ¬ (38 : Int32) = 11 by decide), if_neg (show ¬ (38 : Int32) = 12 by decide), if_neg (show ¬ (38 : Int32) = 13 by decide), if_neg (show ¬ (38 : Int32) = 14 by decide), if_neg (show ¬ (38 : Int32) = 15 by decide), if_neg (show ¬ (38 : Int32) = 16 by decide), if_neg (show ¬ (38 : Int32) = 17 by decide), if_neg (show ¬ (38 : Int32) = 18 by decide), if_neg (show ¬ (38 : Int32) = 19 by decide), if_neg (show ¬ (38 : Int32) = 20 by decide), if_neg (show ¬ (38 : Int32) = 21 by decide), if_neg (show ¬ (38 : Int32) = 22 by decide), if_neg (show ¬ (38 : Int32) = 23 by decide), if_neg (show ¬ (38 : Int32) = 24 by decide), if_neg (show ¬ (38 : Int32) = 25 by decide), if_neg (show ¬ (38 : Int32) = 26 by decide), if_neg (show ¬ (38 : Int32) = 27 by decide), if_neg (show ¬ (38 : Int32) = 28 by decide), if_neg (show ¬ (38 : Int32) = 29 by decide), if_neg (show ¬ (38 : Int32) = 30 by decide), if_neg (show ¬ (38 : Int32) = 31 by decide), if_neg (show ¬ (38 : Int32) = 32 by decide), if_neg (show ¬ (38 : Int32) = 33 by decide), if_neg (show ¬ (38 : Int32) = 34 by decide), if_neg (show ¬ (38 : Int32) = 35 by decide), if_neg (show ¬ (38 : Int32) = 36 by decide), if_neg (show ¬ (38 : Int32) = 37 by decide), if_pos rfl]
  obtain ⟨x1, h1⟩ : ∃ x, xs.getD (nI j + 1).toNatClampNeg 0 = x := ⟨_, rfl⟩
  obtain ⟨r, g, g2, eA, eB, k2⟩ := st_image I (N := N) (by omega) x1
  dsimp only at eB
  have i1 : pb_is g 217 11 := by
    have z := eB
    unfold f_303 at z
    exact (pb_gd z).1
  refine ⟨g2, ?_, k2⟩
  repeat (first | rw [if_pos p1] | rw [if_pos p2] | rw [if_pos p3] | rw [if_pos p4] | rw [if_pos p5] | rw [if_pos i0])
  rw [h1, eA, Option.bind_some]
  dsimp only
  repeat (first | rw [if_pos p1] | rw [if_pos p2] | rw [if_pos p3] | rw [if_pos p4] | rw [if_pos p5] | rw [if_pos i1])
  rw [eB, Option.bind_some]
  dsimp only
  rw [if_pos rfl, lH6]
theorem lw_39 (hL : xs.length ≤ 3072) (I : ma_INV h) (hN : 50000 < N) (hj : j + 6 ≤ xs.length) (c : xs.getD (nI j).toNatClampNeg 0 &&& 63 = 39) : ∃ g, f_307_18s xs N 0 217 (nI j, h) = some (.inl (nI (j + 6), g)) ∧ ma_INV g := by
  have p0 : pb_in (nI j) xs.length := lw_in0 (by omega) (by omega)
  have p1 : pb_in (nI j + 1) xs.length := lw_in (k := 1) (by omega) (by omega)
  have p2 : pb_in (nI j + 2) xs.length := lw_in (k := 2) (by omega) (by omega)
  have p3 : pb_in (nI j + 3) xs.length := lw_in (k := 3) (by omega) (by omega)
  have p4 : pb_in (nI j + 4) xs.length := lw_in (k := 4) (by omega) (by omega)
  have p5 : pb_in (nI j + 5) xs.length := lw_in (k := 5) (by omega) (by omega)
  have i0 := mi_0 I.1
  have e0 : ¬ (Int32.ofNat xs.length - 6 < nI j) := lw_no (by omega) hj
  unfold f_307_18s
  dsimp only
  rw [if_neg e0, if_pos p0, c, if_neg (show ¬ (39 : Int32) = 0 by decide), if_neg (show ¬ (39 : Int32) = 1 by decide), if_neg (show ¬ (39 : Int32) = 2 by decide), if_neg (show ¬ (39 : Int32) = 3 by decide), if_neg (show ¬ (39 : Int32) = 4 by decide), if_neg (show ¬ (39 : Int32) = 5 by decide), if_neg (show ¬ (39 : Int32) = 6 by decide), if_neg (show ¬ (39 : Int32) = 7 by decide), if_neg (show ¬ (39 : Int32) = 8 by decide), if_neg (show ¬ (39 : Int32) = 9 by decide), if_neg (show ¬ (39 : Int32) = 10 by decide), if_neg (show ¬ (39 : Int32) = 11 by decide), if_neg (show ¬ (39 : Int32) = 12 by decide), if_neg (show ¬ (39 : Int32) = 13 by decide), if_neg (show ¬ (39 : Int32) = 14 by decide), if_neg (show ¬ (39 : Int32) = 15 by decide), if_neg (show ¬ (39 : Int32) = 16 by decide), if_neg (show ¬ (39 : Int32) = 17 by decide), if_neg (show ¬ (39 : Int32) = 18 by decide), if_neg (show ¬ (39 : Int32) = 19 by decide), if_neg (show ¬ (39 : Int32) = 20 by decide), if_neg (show ¬ (39 : Int32) = 21 by decide), if_neg (show ¬ (39 : Int32) = 22 by decide), if_neg (show ¬ (39 : Int32) = 23 by decide), if_neg (show ¬ (39 : Int32) = 24 by decide), if_neg (show ¬ (39 : Int32) = 25 by decide), if_neg (show ¬ (39 : Int32) = 26 by decide), if_neg (show ¬ (39 : Int32) = 27 by decide), if_neg (show ¬ (39 : Int32) = 28 by decide), if_neg (show ¬ (39 : Int32) = 29 by decide), if_neg (show ¬ (39 : Int32) = 30 by decide), if_neg (show ¬ (39 : Int32) = 31 by decide), if_neg (show ¬ (39 : Int32) = 32 by decide), if_neg (show ¬ (39 : Int32) = 33 by decide), if_neg (show ¬ (39 : Int32) = 34 by decide), if_neg (show ¬ (39 : Int32) = 35 by decide), if_neg (show ¬ (39 : Int32) = 36 by decide), if_neg (show ¬ (39 : Int32) = 37 by decide), if_neg (show ¬ (39 : Int32) = 38 by decide), if_pos rfl]
  obtain ⟨x1, h1⟩ : ∃ x, xs.getD (nI j + 1).toNatClampNeg 0 = x := ⟨_, rfl⟩
  obtain ⟨r, g, g2, eA, eB, k2⟩ := st_again I (N := N) (by omega) x1
  dsimp only at eB
  have i1 : pb_is g 217 11 := by
    have z := eB
    unfold f_304 at z
    exact (pb_gd z).1
  refine ⟨g2, ?_, k2⟩
  repeat (first | rw [if_pos p1] | rw [if_pos p2] | rw [if_pos p3] | rw [if_pos p4] | rw [if_pos p5] | rw [if_pos i0])
  rw [h1, eA, Option.bind_some]
  dsimp only
  repeat (first | rw [if_pos p1] | rw [if_pos p2] | rw [if_pos p3] | rw [if_pos p4] | rw [if_pos p5] | rw [if_pos i1])
  rw [eB, Option.bind_some]
  dsimp only
  rw [if_pos rfl, lH6]
end
