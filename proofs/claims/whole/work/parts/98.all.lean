/-! The law says true, whatever the script. -/
theorem lw_yes {n j : Nat} (hn : n < 2 ^ 31) (hj : j < 2 ^ 31) (h : n < j + 6) : Int32.ofNat n - 6 < nI j := by
  by_cases c : 6 ≤ n
  · have e : Int32.ofNat n - 6 = nI (n - 6) := lK6 (j := n) c
    rw [e, nI_ltI (by omega) hj]
    omega
  · have q : ∀ k : Fin 6, Int32.ofNat k.val - 6 < 0 := by decide
    exact Int32.lt_of_lt_of_le (q ⟨n, by omega⟩) (nI_pos' hj)
theorem lw_step {xs : List Int32} {N j : Nat} {h : pb_HP} (hL : xs.length ≤ 3072) (I : ma_INV h) (hN : 50000 < N) (hj : j + 6 ≤ xs.length) : ∃ g, f_307_18s xs N 0 217 (nI j, h) = some (.inl (nI (j + 6), g)) ∧ ma_INV g := by
  by_cases c0 : xs.getD (nI j).toNatClampNeg 0 &&& 63 = 0
  · exact lw_0 hL I hN hj c0
  by_cases c1 : xs.getD (nI j).toNatClampNeg 0 &&& 63 = 1
  · exact lw_1 hL I hN hj c1
  by_cases c2 : xs.getD (nI j).toNatClampNeg 0 &&& 63 = 2
  · exact lw_2 hL I hN hj c2
  by_cases c3 : xs.getD (nI j).toNatClampNeg 0 &&& 63 = 3
  · exact lw_3 hL I hN hj c3
  by_cases c4 : xs.getD (nI j).toNatClampNeg 0 &&& 63 = 4
  · exact lw_4 hL I hN hj c4
  by_cases c5 : xs.getD (nI j).toNatClampNeg 0 &&& 63 = 5
  · exact lw_5 hL I hN hj c5
  by_cases c6 : xs.getD (nI j).toNatClampNeg 0 &&& 63 = 6
  · exact lw_6 hL I hN hj c6
  by_cases c7 : xs.getD (nI j).toNatClampNeg 0 &&& 63 = 7
  · exact lw_7 hL I hN hj c7
  by_cases c8 : xs.getD (nI j).toNatClampNeg 0 &&& 63 = 8
  · exact lw_8 hL I hN hj c8
  by_cases c9 : xs.getD (nI j).toNatClampNeg 0 &&& 63 = 9
  · exact lw_9 hL I hN hj c9
  by_cases c10 : xs.getD (nI j).toNatClampNeg 0 &&& 63 = 10
  · exact lw_10 hL I hN hj c10
  by_cases c11 : xs.getD (nI j).toNatClampNeg 0 &&& 63 = 11
  · exact lw_11 hL I hN hj c11
  by_cases c12 : xs.getD (nI j).toNatClampNeg 0 &&& 63 = 12
  · exact lw_12 hL I hN hj c12
  by_cases c13 : xs.getD (nI j).toNatClampNeg 0 &&& 63 = 13
  · exact lw_13 hL I hN hj c13
  by_cases c14 : xs.getD (nI j).toNatClampNeg 0 &&& 63 = 14
  · exact lw_14 hL I hN hj c14
  by_cases c15 : xs.getD (nI j).toNatClampNeg 0 &&& 63 = 15
  · exact lw_15 hL I hN hj c15
  by_cases c16 : xs.getD (nI j).toNatClampNeg 0 &&& 63 = 16
  · exact lw_16 hL I hN hj c16
  by_cases c17 : xs.getD (nI j).toNatClampNeg 0 &&& 63 = 17
  · exact lw_17 hL I hN hj c17
  by_cases c18 : xs.getD (nI j).toNatClampNeg 0 &&& 63 = 18
  · exact lw_18 hL I hN hj c18
  by_cases c19 : xs.getD (nI j).toNatClampNeg 0 &&& 63 = 19
  · exact lw_19 hL I hN hj c19
  by_cases c20 : xs.getD (nI j).toNatClampNeg 0 &&& 63 = 20
  · exact lw_20 hL I hN hj c20
  by_cases c21 : xs.getD (nI j).toNatClampNeg 0 &&& 63 = 21
  · exact lw_21 hL I hN hj c21
  by_cases c22 : xs.getD (nI j).toNatClampNeg 0 &&& 63 = 22
  · exact lw_22 hL I hN hj c22
  by_cases c23 : xs.getD (nI j).toNatClampNeg 0 &&& 63 = 23
  · exact lw_23 hL I hN hj c23
  by_cases c24 : xs.getD (nI j).toNatClampNeg 0 &&& 63 = 24
  · exact lw_24 hL I hN hj c24
  by_cases c25 : xs.getD (nI j).toNatClampNeg 0 &&& 63 = 25
  · exact lw_25 hL I hN hj c25
  by_cases c26 : xs.getD (nI j).toNatClampNeg 0 &&& 63 = 26
  · exact lw_26 hL I hN hj c26
  by_cases c27 : xs.getD (nI j).toNatClampNeg 0 &&& 63 = 27
  · exact lw_27 hL I hN hj c27
  by_cases c28 : xs.getD (nI j).toNatClampNeg 0 &&& 63 = 28
  · exact lw_28 hL I hN hj c28
  by_cases c29 : xs.getD (nI j).toNatClampNeg 0 &&& 63 = 29
  · exact lw_29 hL I hN hj c29
  by_cases c30 : xs.getD (nI j).toNatClampNeg 0 &&& 63 = 30
  · exact lw_30 hL I hN hj c30
  by_cases c31 : xs.getD (nI j).toNatClampNeg 0 &&& 63 = 31
  · exact lw_31 hL I hN hj c31
  by_cases c32 : xs.getD (nI j).toNatClampNeg 0 &&& 63 = 32
  · exact lw_32 hL I hN hj c32
  by_cases c33 : xs.getD (nI j).toNatClampNeg 0 &&& 63 = 33
  · exact lw_33 hL I hN hj c33
  by_cases c34 : xs.getD (nI j).toNatClampNeg 0 &&& 63 = 34
  · exact lw_34 hL I hN hj c34
  by_cases c35 : xs.getD (nI j).toNatClampNeg 0 &&& 63 = 35
  · exact lw_35 hL I hN hj c35
  by_cases c36 : xs.getD (nI j).toNatClampNeg 0 &&& 63 = 36
  · exact lw_36 hL I hN hj c36
  by_cases c37 : xs.getD (nI j).toNatClampNeg 0 &&& 63 = 37
  · exact lw_37 hL I hN hj c37
  by_cases c38 : xs.getD (nI j).toNatClampNeg 0 &&& 63 = 38
  · exact lw_38 hL I hN hj c38
  by_cases c39 : xs.getD (nI j).toNatClampNeg 0 &&& 63 = 39
  · exact lw_39 hL I hN hj c39
  have p0 : pb_in (nI j) xs.length := lw_in0 (by omega) (by omega)
  have e0 : ¬ (Int32.ofNat xs.length - 6 < nI j) := lw_no (by omega) hj
  refine ⟨h, ?_, I⟩
  unfold f_307_18s
  dsimp only
  rw [if_neg e0, if_pos p0, if_neg c0, if_neg c1, if_neg c2, if_neg c3, if_neg c4, if_neg c5, if_neg c6, if_neg c7, if_neg c8, if_neg c9, if_neg c10, if_neg c11, if_neg c12, if_neg c13, if_neg c14, if_neg c15, if_neg c16, if_neg c17, if_neg c18, if_neg c19, if_neg c20, if_neg c21, if_neg c22, if_neg c23, if_neg c24, if_neg c25, if_neg c26, if_neg c27, if_neg c28, if_neg c29, if_neg c30, if_neg c31, if_neg c32, if_neg c33, if_neg c34, if_neg c35, if_neg c36, if_neg c37, if_neg c38, if_neg c39, lH6]
theorem lw_loop {xs : List Int32} {N : Nat} {h : pb_HP} (hL : xs.length ≤ 3072) (I : ma_INV h) (hN : 50000 < N) : ∃ e, pb_wl (f_307_18s xs N 0 217) N (0, h) = some e ∧ ∃ g, e = .inr g ∧ ma_INV g := by
  refine ma_lh (fun j s => s.1 = nI (6 * j) ∧ ma_INV s.2) _ (xs.length / 6) 0 N (0, h) (by omega) (by omega) ⟨rfl, I⟩ ?_ ?_
  · rintro j ⟨i, g⟩ _ hj ⟨hi, hI⟩
    dsimp only at hi hI
    subst hi
    obtain ⟨g2, e, I2⟩ := lw_step hL hI hN (j := 6 * j) (by omega)
    exact .inl ⟨_, e, rfl, I2⟩
  · rintro ⟨i, g⟩ ⟨hi, hI⟩
    dsimp only at hi hI
    subst hi
    refine ⟨.inr g, ?_, g, rfl, hI⟩
    unfold f_307_18s
    rw [if_pos (lw_yes (by omega) (by omega) (by omega))]
theorem lw_whole {xs : List Int32} (hL : xs.length ≤ 3072) : ∃ hE, f_307 xs 100000 pb_h0 = some (1, hE) ∧ hE.1 = 241 := by
  obtain ⟨h3, h6, e3, n3, e6, I6⟩ := mk_begin (N := 100000) (by omega)
  obtain ⟨e, el, g, rfl, I⟩ := lw_loop hL I6 (N := 100000) (by omega)
  refine ⟨g, ?_, I.1.1⟩
  have z : pb_h0.1 = 0 := rfl
  unfold f_307
  rw [z, if_pos sh_0, e3, Option.bind_some, n3, if_pos sh_217, e6, Option.bind_some, el, Option.bind_some]
theorem lw_hlaw : ∀ ys : List Int32, ys.length ≤ 3072 → ∃ (d : Nat) (hE : pb_HP), d ≤ 1000 ∧ hE.1 ≤ 241 ∧ pb_AR ys (d + 1) 307 pb_h0 [.retAddr 5] (some (.int 1)) hE := by
  intro ys hL
  obtain ⟨hE, e, n⟩ := lw_whole hL
  exact ⟨25, hE, by omega, Nat.le_of_eq n, l_307 (d := 0) e⟩
