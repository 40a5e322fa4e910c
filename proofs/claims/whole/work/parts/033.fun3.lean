/-- County.told -/
def f_5 (h : pb_HP) (v0 : Nat) (v1 : Int32) : Option (Int32) :=
  if 0 ≤ v1 then (if v1 < 100 then (if (v1 / 10) = 0 then (if ¬ (v1 - v1 / 10 * 10) = 0 then (if ¬ (v1 - v1 / 10 * 10) = 1 then (some ((-1))) else (if pb_is h v0 0 then (some (pb_I h v0 1)) else none)) else (if pb_is h v0 0 then (some (pb_I h v0 0)) else none)) else if (v1 / 10) = 1 then (if pb_is h v0 0 then ((f_3 h v0 (v1 - v1 / 10 * 10)).bind fun r8 => (if r8 = 0 then (some ((-1))) else ((pb_R h v0 2).bind fun q9 => (if pb_ar h q9 12 (v1 - v1 / 10 * 10) then (some (pb_I h q9 (v1 - v1 / 10 * 10).toNatClampNeg)) else none)))) else none) else if (v1 / 10) = 2 then (if pb_is h v0 0 then ((f_3 h v0 (v1 - v1 / 10 * 10)).bind fun r14 => (if r14 = 0 then (some ((-1))) else ((pb_R h v0 3).bind fun q15 => (if pb_ar h q15 12 (v1 - v1 / 10 * 10) then (some (pb_I h q15 (v1 - v1 / 10 * 10).toNatClampNeg)) else none)))) else none) else if (v1 / 10) = 3 then (if pb_is h v0 0 then ((f_4 h v0 (v1 - v1 / 10 * 10)).bind fun r20 => (if r20 = 0 then (some ((-1))) else ((pb_R h v0 4).bind fun q21 => (if pb_ar h q21 12 (v1 - v1 / 10 * 10) then (some (pb_I h q21 (v1 - v1 / 10 * 10).toNatClampNeg)) else none)))) else none) else if (v1 / 10) = 4 then (if pb_is h v0 0 then ((f_4 h v0 (v1 - v1 / 10 * 10)).bind fun r26 => (if r26 = 0 then (some ((-1))) else ((pb_R h v0 5).bind fun q27 => (if pb_ar h q27 12 (v1 - v1 / 10 * 10) then (some (pb_I h q27 (v1 - v1 / 10 * 10).toNatClampNeg)) else none)))) else none) else if (v1 / 10) = 5 then (if pb_is h v0 0 then ((f_4 h v0 (v1 - v1 / 10 * 10)).bind fun r32 => (if r32 = 0 then (some ((-1))) else ((pb_R h v0 6).bind fun q33 => (if pb_ar h q33 12 (v1 - v1 / 10 * 10) then (some (pb_I h q33 (v1 - v1 / 10 * 10).toNatClampNeg)) else none)))) else none) else (some ((-1)))) else (if pb_is h v0 0 then ((f_6 h v0 (v1 - 100)).bind fun r37 => (some r37)) else none)) else (some ((-1)))
set_option maxRecDepth 4000 in
theorem l_5 {xs : List Int32} {d : Nat} {h : pb_HP} {v0 : Nat} {v1 : Int32} {r : Int32} (hf : f_5 h v0 v1 = some r) : pb_AR xs (d + 3) 5 h [.ref v0, .int v1] (some (.int r)) h := by
  intro G hG
  have hc_ : pb_CODE 5 = kc_5 := rfl
  rw [hc_] at hG
  unfold f_5 at hf
  refine hG.1 0 0 kb_5_0 _ _ _ rfl ?_
  refine And.intro (fun (hc39 : 0 ≤ v1) => ?_) (fun (hc39 : ¬ (0 ≤ v1)) => ?_)
  · rw [if_pos hc39] at hf
    refine hG.1 1 6 kb_5_6 _ _ _ rfl ?_
    refine And.intro (fun (hc38 : v1 < 100) => ?_) (fun (hc38 : ¬ (v1 < 100)) => ?_)
    · rw [if_pos hc38] at hf
      refine hG.1 2 21 kb_5_21 _ _ _ rfl ?_
      refine And.intro (by decide) (And.intro (by decide) (?_))
      by_cases hc1 : (v1 / 10) = 0
      · rw [if_pos hc1] at hf
        refine pb_gs (G := G) (tgt := 68) (show pb_swt 30 158 0 5 #[38, 63, 82, 101, 120, 139] (v1 / 10) = 68 by rw [hc1]; decide) ?_
        refine hG.1 3 68 kb_5_68 _ _ _ rfl ?_
        refine And.intro (fun (hc5 : ¬ (v1 - v1 / 10 * 10) = 0) => ?_) (fun (hc5 : ¬ (¬ (v1 - v1 / 10 * 10) = 0)) => ?_)
        · rw [if_pos hc5] at hf
          refine hG.1 4 79 kb_5_79 _ _ _ rfl ?_
          refine And.intro (fun (hc3 : ¬ (v1 - v1 / 10 * 10) = 1) => ?_) (fun (hc3 : ¬ (¬ (v1 - v1 / 10 * 10) = 1)) => ?_)
          · rw [if_pos hc3] at hf
            refine hG.1 5 91 kb_5_91 _ _ _ rfl ?_
            refine hG.1 6 92 kb_5_92 _ _ _ rfl ?_
            cases hf
            exact And.intro (fun z_ => absurd z_ (by decide)) (And.intro rfl rfl)
          · rw [if_neg hc3] at hf
            obtain ⟨hg2, hf⟩ := pb_gd hf
            refine And.intro hg2 (?_)
            refine hG.1 6 92 kb_5_92 _ _ _ rfl ?_
            cases hf
            exact And.intro (fun z_ => absurd z_ (by decide)) (And.intro rfl rfl)
        · rw [if_neg hc5] at hf
          obtain ⟨hg4, hf⟩ := pb_gd hf
          refine And.intro hg4 (?_)
          refine hG.1 6 92 kb_5_92 _ _ _ rfl ?_
          cases hf
          exact And.intro (fun z_ => absurd z_ (by decide)) (And.intro rfl rfl)
      rw [if_neg hc1] at hf
      by_cases hc6 : (v1 / 10) = 1
      · rw [if_pos hc6] at hf
        refine pb_gs (G := G) (tgt := 93) (show pb_swt 30 158 0 5 #[38, 63, 82, 101, 120, 139] (v1 / 10) = 93 by rw [hc6]; decide) ?_
        refine hG.1 7 93 kb_5_93 _ _ _ rfl ?_
        obtain ⟨hg7, hf⟩ := pb_gd hf
        obtain ⟨r8, cr8, hf⟩ := Option.bind_eq_some_iff.mp hf
        refine And.intro hg7 (And.intro (Nat.le_of_ble_eq_true rfl) (And.intro (Nat.le_of_ble_eq_true rfl) (Exists.intro (some (.int r8)) (Exists.intro _ (And.intro (l_3 cr8) (?_))))))
        refine And.intro (fun (hc11 : r8 = 0) => ?_) (fun (hc11 : ¬ (r8 = 0)) => ?_)
        · rw [if_pos hc11] at hf
          refine hG.1 8 110 kb_5_110 _ _ _ rfl ?_
          refine hG.1 9 111 kb_5_111 _ _ _ rfl ?_
          cases hf
          exact And.intro (fun z_ => absurd z_ (by decide)) (And.intro rfl rfl)
        · rw [if_neg hc11] at hf
          obtain ⟨q9, eq9, hf⟩ := Option.bind_eq_some_iff.mp hf
          obtain ⟨hg10, hf⟩ := pb_gd hf
          refine And.intro hg7 (Exists.intro q9 (And.intro eq9 (And.intro hg10 (?_))))
          refine hG.1 9 111 kb_5_111 _ _ _ rfl ?_
          cases hf
          exact And.intro (fun z_ => absurd z_ (by decide)) (And.intro rfl rfl)
      rw [if_neg hc6] at hf
      by_cases hc12 : (v1 / 10) = 2
      · rw [if_pos hc12] at hf
        refine pb_gs (G := G) (tgt := 112) (show pb_swt 30 158 0 5 #[38, 63, 82, 101, 120, 139] (v1 / 10) = 112 by rw [hc12]; decide) ?_
        refine hG.1 10 112 kb_5_112 _ _ _ rfl ?_
        obtain ⟨hg13, hf⟩ := pb_gd hf
        obtain ⟨r14, cr14, hf⟩ := Option.bind_eq_some_iff.mp hf
        refine And.intro hg13 (And.intro (Nat.le_of_ble_eq_true rfl) (And.intro (Nat.le_of_ble_eq_true rfl) (Exists.intro (some (.int r14)) (Exists.intro _ (And.intro (l_3 cr14) (?_))))))
        refine And.intro (fun (hc17 : r14 = 0) => ?_) (fun (hc17 : ¬ (r14 = 0)) => ?_)
        · rw [if_pos hc17] at hf
          refine hG.1 11 129 kb_5_129 _ _ _ rfl ?_
          refine hG.1 12 130 kb_5_130 _ _ _ rfl ?_
          cases hf
          exact And.intro (fun z_ => absurd z_ (by decide)) (And.intro rfl rfl)
        · rw [if_neg hc17] at hf
          obtain ⟨q15, eq15, hf⟩ := Option.bind_eq_some_iff.mp hf
          obtain ⟨hg16, hf⟩ := pb_gd hf
          refine And.intro hg13 (Exists.intro q15 (And.intro eq15 (And.intro hg16 (?_))))
          refine hG.1 12 130 kb_5_130 _ _ _ rfl ?_
          cases hf
          exact And.intro (fun z_ => absurd z_ (by decide)) (And.intro rfl rfl)
      rw [if_neg hc12] at hf
      by_cases hc18 : (v1 / 10) = 3
      · rw [if_pos hc18] at hf
        refine pb_gs (G := G) (tgt := 131) (show pb_swt 30 158 0 5 #[38, 63, 82, 101, 120, 139] (v1 / 10) = 131 by rw [hc18]; decide) ?_
        refine hG.1 13 131 kb_5_131 _ _ _ rfl ?_
        obtain ⟨hg19, hf⟩ := pb_gd hf
        obtain ⟨r20, cr20, hf⟩ := Option.bind_eq_some_iff.mp hf
        refine And.intro hg19 (And.intro (Nat.le_of_ble_eq_true rfl) (And.intro (Nat.le_of_ble_eq_true rfl) (Exists.intro (some (.int r20)) (Exists.intro _ (And.intro (l_4 cr20) (?_))))))
        refine And.intro (fun (hc23 : r20 = 0) => ?_) (fun (hc23 : ¬ (r20 = 0)) => ?_)
        · rw [if_pos hc23] at hf
          refine hG.1 14 148 kb_5_148 _ _ _ rfl ?_
          refine hG.1 15 149 kb_5_149 _ _ _ rfl ?_
          cases hf
          exact And.intro (fun z_ => absurd z_ (by decide)) (And.intro rfl rfl)
        · rw [if_neg hc23] at hf
          obtain ⟨q21, eq21, hf⟩ := Option.bind_eq_some_iff.mp hf
          obtain ⟨hg22, hf⟩ := pb_gd hf
          refine And.intro hg19 (Exists.intro q21 (And.intro eq21 (And.intro hg22 (?_))))
          refine hG.1 15 149 kb_5_149 _ _ _ rfl ?_
          cases hf
          exact And.intro (fun z_ => absurd z_ (by decide)) (And.intro rfl rfl)
      rw [if_neg hc18] at hf
      by_cases hc24 : (v1 / 10) = 4
      · rw [if_pos hc24] at hf
        refine pb_gs (G := G) (tgt := 150) (show pb_swt 30 158 0 5 #[38, 63, 82, 101, 120, 139] (v1 / 10) = 150 by rw [hc24]; decide) ?_
        refine hG.1 16 150 kb_5_150 _ _ _ rfl ?_
        obtain ⟨hg25, hf⟩ := pb_gd hf
        obtain ⟨r26, cr26, hf⟩ := Option.bind_eq_some_iff.mp hf
        refine And.intro hg25 (And.intro (Nat.le_of_ble_eq_true rfl) (And.intro (Nat.le_of_ble_eq_true rfl) (Exists.intro (some (.int r26)) (Exists.intro _ (And.intro (l_4 cr26) (?_))))))
        refine And.intro (fun (hc29 : r26 = 0) => ?_) (fun (hc29 : ¬ (r26 = 0)) => ?_)
        · rw [if_pos hc29] at hf
          refine hG.1 17 167 kb_5_167 _ _ _ rfl ?_
          refine hG.1 18 168 kb_5_168 _ _ _ rfl ?_
          cases hf
          exact And.intro (fun z_ => absurd z_ (by decide)) (And.intro rfl rfl)
        · rw [if_neg hc29] at hf
          obtain ⟨q27, eq27, hf⟩ := Option.bind_eq_some_iff.mp hf
          obtain ⟨hg28, hf⟩ := pb_gd hf
          refine And.intro hg25 (Exists.intro q27 (And.intro eq27 (And.intro hg28 (?_))))
          refine hG.1 18 168 kb_5_168 _ _ _ rfl ?_
          cases hf
          exact And.intro (fun z_ => absurd z_ (by decide)) (And.intro rfl rfl)
      rw [if_neg hc24] at hf
      by_cases hc30 : (v1 / 10) = 5
      · rw [if_pos hc30] at hf
        refine pb_gs (G := G) (tgt := 169) (show pb_swt 30 158 0 5 #[38, 63, 82, 101, 120, 139] (v1 / 10) = 169 by rw [hc30]; decide) ?_
        refine hG.1 19 169 kb_5_169 _ _ _ rfl ?_
        obtain ⟨hg31, hf⟩ := pb_gd hf
        obtain ⟨r32, cr32, hf⟩ := Option.bind_eq_some_iff.mp hf
        refine And.intro hg31 (And.intro (Nat.le_of_ble_eq_true rfl) (And.intro (Nat.le_of_ble_eq_true rfl) (Exists.intro (some (.int r32)) (Exists.intro _ (And.intro (l_4 cr32) (?_))))))
        refine And.intro (fun (hc35 : r32 = 0) => ?_) (fun (hc35 : ¬ (r32 = 0)) => ?_)
        · rw [if_pos hc35] at hf
          refine hG.1 20 186 kb_5_186 _ _ _ rfl ?_
          refine hG.1 21 187 kb_5_187 _ _ _ rfl ?_
          cases hf
          exact And.intro (fun z_ => absurd z_ (by decide)) (And.intro rfl rfl)
        · rw [if_neg hc35] at hf
          obtain ⟨q33, eq33, hf⟩ := Option.bind_eq_some_iff.mp hf
          obtain ⟨hg34, hf⟩ := pb_gd hf
          refine And.intro hg31 (Exists.intro q33 (And.intro eq33 (And.intro hg34 (?_))))
          refine hG.1 21 187 kb_5_187 _ _ _ rfl ?_
          cases hf
          exact And.intro (fun z_ => absurd z_ (by decide)) (And.intro rfl rfl)
      rw [if_neg hc30] at hf
      refine pb_gs (G := G) (tgt := 188) (show pb_swt 30 158 0 5 #[38, 63, 82, 101, 120, 139] (v1 / 10) = 188 from pb_swd (by decide) (by decide) (fun k_ hk_ => by
        have hk_ : k_ < 6 := hk_
        match k_, hk_ with
        | 0, _ => exact hc1
        | 1, _ => exact hc6
        | 2, _ => exact hc12
        | 3, _ => exact hc18
        | 4, _ => exact hc24
        | 5, _ => exact hc30
        | k_ + 6, hk_ => omega)) ?_
      refine hG.1 22 188 kb_5_188 _ _ _ rfl ?_
      cases hf
      exact And.intro (fun z_ => absurd z_ (by decide)) (And.intro rfl rfl)
    · rw [if_neg hc38] at hf
      obtain ⟨hg36, hf⟩ := pb_gd hf
      obtain ⟨r37, cr37, hf⟩ := Option.bind_eq_some_iff.mp hf
      refine And.intro hg36 (And.intro (Nat.le_of_ble_eq_true rfl) (And.intro (Nat.le_of_ble_eq_true rfl) (Exists.intro (some (.int r37)) (Exists.intro _ (And.intro (l_6 cr37) (?_))))))
      cases hf
      exact And.intro (fun z_ => absurd z_ (by decide)) (And.intro rfl rfl)
  · rw [if_neg hc39] at hf
    cases hf
    exact And.intro (fun z_ => absurd z_ (by decide)) (And.intro rfl rfl)
/-- County.outstanding -/
def f_13 (N : Nat) (h : pb_HP) (v0 : Nat) (v1 : Int32) : Option (Int32) :=
  if v1 = 1 then (if pb_is h v0 0 then ((f_14 N h v0).bind fun r3 => (some r3)) else none) else if v1 = 2 then (if pb_is h v0 0 then ((f_15 N h v0).bind fun r6 => (some r6)) else none) else if v1 = 3 then (if pb_is h v0 0 then ((f_16 N h v0).bind fun r9 => (some r9)) else none) else if v1 = 4 then (if pb_is h v0 0 then ((f_17 N h v0).bind fun r12 => ((f_164 r12 0).bind fun r13 => (some r13))) else none) else if v1 = 5 then (if pb_is h v0 0 then ((f_17 N h v0).bind fun r16 => (some r16)) else none) else if v1 = 6 then (if pb_is h v0 0 then ((f_19 N h v0).bind fun r19 => (some r19)) else none) else (some ((-2)))
set_option maxRecDepth 4000 in
theorem l_13 {xs : List Int32} {d : Nat} {N : Nat} {h : pb_HP} {v0 : Nat} {v1 : Int32} {r : Int32} (hf : f_13 N h v0 v1 = some r) : pb_AR xs (d + 3) 13 h [.ref v0, .int v1] (some (.int r)) h := by
  intro G hG
  have hc_ : pb_CODE 13 = kc_13 := rfl
  rw [hc_] at hG
  unfold f_13 at hf
  refine hG.1 0 0 kb_13_0 _ _ _ rfl ?_
  by_cases hc1 : v1 = 1
  · rw [if_pos hc1] at hf
    refine pb_gs (G := G) (tgt := 40) (show pb_swt 1 73 1 6 #[39, 44, 49, 54, 63, 68] v1 = 40 by rw [hc1]; decide) ?_
    refine hG.1 1 40 kb_13_40 _ _ _ rfl ?_
    obtain ⟨hg2, hf⟩ := pb_gd hf
    obtain ⟨r3, cr3, hf⟩ := Option.bind_eq_some_iff.mp hf
    refine And.intro hg2 (And.intro (Nat.le_of_ble_eq_true rfl) (And.intro (Nat.le_of_ble_eq_true rfl) (Exists.intro (some (.int r3)) (Exists.intro _ (And.intro (l_14 cr3) (?_))))))
    cases hf
    exact And.intro (fun z_ => absurd z_ (by decide)) (And.intro rfl rfl)
  rw [if_neg hc1] at hf
  by_cases hc4 : v1 = 2
  · rw [if_pos hc4] at hf
    refine pb_gs (G := G) (tgt := 45) (show pb_swt 1 73 1 6 #[39, 44, 49, 54, 63, 68] v1 = 45 by rw [hc4]; decide) ?_
    refine hG.1 2 45 kb_13_45 _ _ _ rfl ?_
    obtain ⟨hg5, hf⟩ := pb_gd hf
    obtain ⟨r6, cr6, hf⟩ := Option.bind_eq_some_iff.mp hf
    refine And.intro hg5 (And.intro (Nat.le_of_ble_eq_true rfl) (And.intro (Nat.le_of_ble_eq_true rfl) (Exists.intro (some (.int r6)) (Exists.intro _ (And.intro (l_15 cr6) (?_))))))
    cases hf
    exact And.intro (fun z_ => absurd z_ (by decide)) (And.intro rfl rfl)
  rw [if_neg hc4] at hf
  by_cases hc7 : v1 = 3
  · rw [if_pos hc7] at hf
    refine pb_gs (G := G) (tgt := 50) (show pb_swt 1 73 1 6 #[39, 44, 49, 54, 63, 68] v1 = 50 by rw [hc7]; decide) ?_
    refine hG.1 3 50 kb_13_50 _ _ _ rfl ?_
    obtain ⟨hg8, hf⟩ := pb_gd hf
    obtain ⟨r9, cr9, hf⟩ := Option.bind_eq_some_iff.mp hf
    refine And.intro hg8 (And.intro (Nat.le_of_ble_eq_true rfl) (And.intro (Nat.le_of_ble_eq_true rfl) (Exists.intro (some (.int r9)) (Exists.intro _ (And.intro (l_16 cr9) (?_))))))
    cases hf
    exact And.intro (fun z_ => absurd z_ (by decide)) (And.intro rfl rfl)
  rw [if_neg hc7] at hf
  by_cases hc10 : v1 = 4
  · rw [if_pos hc10] at hf
    refine pb_gs (G := G) (tgt := 55) (show pb_swt 1 73 1 6 #[39, 44, 49, 54, 63, 68] v1 = 55 by rw [hc10]; decide) ?_
    refine hG.1 4 55 kb_13_55 _ _ _ rfl ?_
    obtain ⟨hg11, hf⟩ := pb_gd hf
    obtain ⟨r12, cr12, hf⟩ := Option.bind_eq_some_iff.mp hf
    refine And.intro hg11 (And.intro (Nat.le_of_ble_eq_true rfl) (And.intro (Nat.le_of_ble_eq_true rfl) (Exists.intro (some (.int r12)) (Exists.intro _ (And.intro (l_17 cr12) (?_))))))
    obtain ⟨r13, cr13, hf⟩ := Option.bind_eq_some_iff.mp hf
    refine And.intro (Nat.le_of_ble_eq_true rfl) (And.intro (Nat.le_of_ble_eq_true rfl) (And.intro (Nat.le_of_ble_eq_true rfl) (Exists.intro (some (.int r13)) (Exists.intro _ (And.intro (l_164 cr13) (?_))))))
    cases hf
    exact And.intro (fun z_ => absurd z_ (by decide)) (And.intro rfl rfl)
  rw [if_neg hc10] at hf
  by_cases hc14 : v1 = 5
  · rw [if_pos hc14] at hf
    refine pb_gs (G := G) (tgt := 64) (show pb_swt 1 73 1 6 #[39, 44, 49, 54, 63, 68] v1 = 64 by rw [hc14]; decide) ?_
    refine hG.1 5 64 kb_13_64 _ _ _ rfl ?_
    obtain ⟨hg15, hf⟩ := pb_gd hf
    obtain ⟨r16, cr16, hf⟩ := Option.bind_eq_some_iff.mp hf
    refine And.intro hg15 (And.intro (Nat.le_of_ble_eq_true rfl) (And.intro (Nat.le_of_ble_eq_true rfl) (Exists.intro (some (.int r16)) (Exists.intro _ (And.intro (l_17 cr16) (?_))))))
    cases hf
    exact And.intro (fun z_ => absurd z_ (by decide)) (And.intro rfl rfl)
  rw [if_neg hc14] at hf
  by_cases hc17 : v1 = 6
  · rw [if_pos hc17] at hf
    refine pb_gs (G := G) (tgt := 69) (show pb_swt 1 73 1 6 #[39, 44, 49, 54, 63, 68] v1 = 69 by rw [hc17]; decide) ?_
    refine hG.1 6 69 kb_13_69 _ _ _ rfl ?_
    obtain ⟨hg18, hf⟩ := pb_gd hf
    obtain ⟨r19, cr19, hf⟩ := Option.bind_eq_some_iff.mp hf
    refine And.intro hg18 (And.intro (Nat.le_of_ble_eq_true rfl) (And.intro (Nat.le_of_ble_eq_true rfl) (Exists.intro (some (.int r19)) (Exists.intro _ (And.intro (l_19 cr19) (?_))))))
    cases hf
    exact And.intro (fun z_ => absurd z_ (by decide)) (And.intro rfl rfl)
  rw [if_neg hc17] at hf
  refine pb_gs (G := G) (tgt := 74) (show pb_swt 1 73 1 6 #[39, 44, 49, 54, 63, 68] v1 = 74 from pb_swd (by decide) (by decide) (fun k_ hk_ => by
    have hk_ : k_ < 6 := hk_
    match k_, hk_ with
    | 0, _ => exact hc1
    | 1, _ => exact hc4
    | 2, _ => exact hc7
    | 3, _ => exact hc10
    | 4, _ => exact hc14
    | 5, _ => exact hc17
    | k_ + 6, hk_ => omega)) ?_
  refine hG.1 7 74 kb_13_74 _ _ _ rfl ?_
  cases hf
  exact And.intro (fun z_ => absurd z_ (by decide)) (And.intro rfl rfl)
def f_20_17s (N : Nat) (h : pb_HP) (v0 : Nat) (v1 : Int32) (v2 : Int32) (s : Int32 × Int32) : Option ((Int32 × Int32) ⊕ (Int32)) :=
  if pb_is h v0 0 then (if (pb_I h v0 1) ≤ s.2 then (some (.inr s.1)) else ((f_11 N h v0 s.2 63).bind fun r3 => (if ¬ r3 = v2 then (some (.inl ((s.1, s.2 + 1)))) else (some (.inl ((s.1 ||| ((1 : Int32) <<< (s.2 &&& 31)), s.2 + 1))))))) else none
def f_20_4s (N : Nat) (h : pb_HP) (v0 : Nat) (s : Int32 × Int32) : Option ((Int32 × Int32) ⊕ (Int32)) :=
  if pb_is h v0 0 then (if (pb_I h v0 0) ≤ s.2 then (some (.inr s.1)) else ((pb_wl (f_20_17s N h v0 s.1 s.2) N ((0, 0))).bind fun e6 => ((f_305 e6).bind fun r7 => ((f_305 s.1).bind fun r8 => (if r7 ≤ r8 then (some (.inl ((s.1, s.2 + 1)))) else (some (.inl ((e6, s.2 + 1))))))))) else none
/-- County.greatestGang -/
def f_20 (N : Nat) (h : pb_HP) (v0 : Nat) : Option (Int32) :=
  (pb_wl (f_20_4s N h v0) N ((0, 0))).bind fun e11 => (some e11)
set_option maxRecDepth 4000 in
theorem l_20 {xs : List Int32} {d : Nat} {N : Nat} {h : pb_HP} {v0 : Nat} {r : Int32} (hf : f_20 N h v0 = some r) : pb_AR xs (d + 3) 20 h [.ref v0] (some (.int r)) h := by
  intro G hG
  have hc_ : pb_CODE 20 = kc_20 := rfl
  rw [hc_] at hG
  have hl_17 : ∀ (v0 : Nat) (v1 : Int32) (v2 : Int32) (n_ : Nat) (s : Int32 × Int32) (e : Int32), pb_wl (f_20_17s N h v0 v1 v2) n_ s = some e → G 51 [(0, .ref v0), (1, .int v1), (2, .int v2), (3, .int e)] [] h → G 17 [(0, .ref v0), (1, .int v1), (2, .int v2), (3, .int s.1), (4, .int s.2)] [] h := by
    intro v0 v1 v2
    refine pb_wl_ind (I := fun (s : Int32 × Int32) => G 17 [(0, .ref v0), (1, .int v1), (2, .int v2), (3, .int s.1), (4, .int s.2)] [] h) (K := fun (e : Int32) => G 51 [(0, .ref v0), (1, .int v1), (2, .int v2), (3, .int e)] [] h) (fun s x hf hk => ?_)
    unfold f_20_17s at hf
    refine hG.1 2 17 kb_20_17 _ _ _ rfl ?_
    obtain ⟨hg2, hf⟩ := pb_gd hf
    refine And.intro hg2 (?_)
    refine And.intro (fun (hc5 : (pb_I h v0 1) ≤ s.2) => ?_) (fun (hc5 : ¬ ((pb_I h v0 1) ≤ s.2)) => ?_)
    · rw [if_pos hc5] at hf
      cases hf
      exact hG.2 51 _ [0, 1, 2, 3] _ _ _ rfl hk
    · rw [if_neg hc5] at hf
      obtain ⟨r3, cr3, hf⟩ := Option.bind_eq_some_iff.mp hf
      refine And.intro hg2 (And.intro (Nat.le_of_ble_eq_true rfl) (And.intro (Nat.le_of_ble_eq_true rfl) (Exists.intro (some (.int r3)) (Exists.intro _ (And.intro (l_11 cr3) (?_))))))
      refine And.intro (fun (hc4 : ¬ r3 = v2) => ?_) (fun (hc4 : ¬ (¬ r3 = v2)) => ?_)
      · rw [if_pos hc4] at hf
        refine hG.1 3 45 kb_20_45 _ _ _ rfl ?_
        cases hf
        exact hk
      · rw [if_neg hc4] at hf
        refine hG.1 3 45 kb_20_45 _ _ _ rfl ?_
        cases hf
        exact hk
  have hl_4 : ∀ (v0 : Nat) (n_ : Nat) (s : Int32 × Int32) (e : Int32), pb_wl (f_20_4s N h v0) n_ s = some e → G 70 [(1, .int e)] [] h → G 4 [(0, .ref v0), (1, .int s.1), (2, .int s.2)] [] h := by
    intro v0
    refine pb_wl_ind (I := fun (s : Int32 × Int32) => G 4 [(0, .ref v0), (1, .int s.1), (2, .int s.2)] [] h) (K := fun (e : Int32) => G 70 [(1, .int e)] [] h) (fun s x hf hk => ?_)
    unfold f_20_4s at hf
    refine hG.1 1 4 kb_20_4 _ _ _ rfl ?_
    obtain ⟨hg1, hf⟩ := pb_gd hf
    refine And.intro hg1 (?_)
    refine And.intro (fun (hc10 : (pb_I h v0 0) ≤ s.2) => ?_) (fun (hc10 : ¬ ((pb_I h v0 0) ≤ s.2)) => ?_)
    · rw [if_pos hc10] at hf
      cases hf
      exact hG.2 70 _ [1] _ _ _ rfl hk
    · rw [if_neg hc10] at hf
      obtain ⟨e6, he_e6, hf⟩ := Option.bind_eq_some_iff.mp hf
      refine hl_17 _ _ _ _ _ _ he_e6 ?_
      refine hG.1 4 51 kb_20_51 _ _ _ rfl ?_
      obtain ⟨r7, cr7, hf⟩ := Option.bind_eq_some_iff.mp hf
      refine And.intro (Nat.le_of_ble_eq_true rfl) (And.intro (Nat.le_of_ble_eq_true rfl) (And.intro (Nat.le_of_ble_eq_true rfl) (Exists.intro (some (.int r7)) (Exists.intro _ (And.intro (l_305 cr7) (?_))))))
      obtain ⟨r8, cr8, hf⟩ := Option.bind_eq_some_iff.mp hf
      refine And.intro (Nat.le_of_ble_eq_true rfl) (And.intro (Nat.le_of_ble_eq_true rfl) (And.intro (Nat.le_of_ble_eq_true rfl) (Exists.intro (some (.int r8)) (Exists.intro _ (And.intro (l_305 cr8) (?_))))))
      refine And.intro (fun (hc9 : r7 ≤ r8) => ?_) (fun (hc9 : ¬ (r7 ≤ r8)) => ?_)
      · rw [if_pos hc9] at hf
        refine hG.1 5 64 kb_20_64 _ _ _ rfl ?_
        cases hf
        exact hG.2 4 _ [0, 1, 2] _ _ _ rfl hk
      · rw [if_neg hc9] at hf
        refine hG.1 5 64 kb_20_64 _ _ _ rfl ?_
        cases hf
        exact hG.2 4 _ [0, 1, 2] _ _ _ rfl hk
  unfold f_20 at hf
  refine hG.1 0 0 kb_20_0 _ _ _ rfl ?_
  obtain ⟨e11, he_e11, hf⟩ := Option.bind_eq_some_iff.mp hf
  refine hl_4 _ _ _ _ he_e11 ?_
  refine hG.1 6 70 kb_20_70 _ _ _ rfl ?_
  cases hf
  exact And.intro (fun z_ => absurd z_ (by decide)) (And.intro rfl rfl)
def f_24_32s (N : Nat) (h : pb_HP) (v0 : Nat) (v1 : Int32) (v2 : Int32) (v3 : Int32) (v4 : Int32) (s : Int32 × Int32) : Option ((Int32 × Int32) ⊕ (Int32)) :=
  if pb_is h v0 0 then (if (pb_I h v0 1) ≤ s.2 then (some (.inr s.1)) else ((f_7 h v0 s.2).bind fun r3 => (if r3 = 0 then (some (.inl ((s.1, s.2 + 1)))) else ((f_11 N h v0 s.2 v1).bind fun r4 => (if ¬ r4 = v4 then (some (.inl ((s.1, s.2 + 1)))) else (some (.inl ((s.1 + 1, s.2 + 1))))))))) else none
def f_24_8s (N : Nat) (h : pb_HP) (v0 : Nat) (v1 : Int32) (s : Int32 × Int32 × Int32) : Option ((Int32 × Int32 × Int32) ⊕ (Int32)) :=
  if pb_is h v0 0 then (if (pb_I h v0 0) ≤ s.2.2 then (some (.inr s.2.1)) else (if ((v1 >>> (s.2.2 &&& 31)) &&& 1) = 0 then (some (.inl ((s.1, s.2.1, s.2.2 + 1)))) else ((pb_wl (f_24_32s N h v0 v1 s.1 s.2.1 s.2.2) N ((0, 0))).bind fun e8 => (if s.1 < e8 then (some (.inl ((s.1, s.2.1, s.2.2 + 1)))) else (some (.inl ((e8, s.2.2, s.2.2 + 1)))))))) else none
/-- County.weakest -/
def f_24 (N : Nat) (h : pb_HP) (v0 : Nat) (v1 : Int32) : Option (Int32) :=
  (pb_wl (f_24_8s N h v0 v1) N ((7, 0, 0))).bind fun e12 => (some e12)
set_option maxRecDepth 4000 in
theorem l_24 {xs : List Int32} {d : Nat} {N : Nat} {h : pb_HP} {v0 : Nat} {v1 : Int32} {r : Int32} (hf : f_24 N h v0 v1 = some r) : pb_AR xs (d + 3) 24 h [.ref v0, .int v1] (some (.int r)) h := by
  intro G hG
  have hc_ : pb_CODE 24 = kc_24 := rfl
  rw [hc_] at hG
  have hl_32 : ∀ (v0 : Nat) (v1 : Int32) (v2 : Int32) (v3 : Int32) (v4 : Int32) (n_ : Nat) (s : Int32 × Int32) (e : Int32), pb_wl (f_24_32s N h v0 v1 v2 v3 v4) n_ s = some e → G 71 [(0, .ref v0), (1, .int v1), (2, .int v2), (3, .int v3), (4, .int v4), (5, .int e)] [] h → G 32 [(0, .ref v0), (1, .int v1), (2, .int v2), (3, .int v3), (4, .int v4), (5, .int s.1), (6, .int s.2)] [] h := by
    intro v0 v1 v2 v3 v4
    refine pb_wl_ind (I := fun (s : Int32 × Int32) => G 32 [(0, .ref v0), (1, .int v1), (2, .int v2), (3, .int v3), (4, .int v4), (5, .int s.1), (6, .int s.2)] [] h) (K := fun (e : Int32) => G 71 [(0, .ref v0), (1, .int v1), (2, .int v2), (3, .int v3), (4, .int v4), (5, .int e)] [] h) (fun s x hf hk => ?_)
    unfold f_24_32s at hf
    refine hG.1 2 32 kb_24_32 _ _ _ rfl ?_
    obtain ⟨hg2, hf⟩ := pb_gd hf
    refine And.intro hg2 (?_)
    refine And.intro (fun (hc7 : (pb_I h v0 1) ≤ s.2) => ?_) (fun (hc7 : ¬ ((pb_I h v0 1) ≤ s.2)) => ?_)
    · rw [if_pos hc7] at hf
      cases hf
      exact hG.2 71 _ [0, 1, 2, 3, 4, 5] _ _ _ rfl hk
    · rw [if_neg hc7] at hf
      obtain ⟨r3, cr3, hf⟩ := Option.bind_eq_some_iff.mp hf
      refine And.intro hg2 (And.intro (Nat.le_of_ble_eq_true rfl) (And.intro (Nat.le_of_ble_eq_true rfl) (Exists.intro (some (.int r3)) (Exists.intro _ (And.intro (l_7 cr3) (?_))))))
      refine And.intro (fun (hc6 : r3 = 0) => ?_) (fun (hc6 : ¬ (r3 = 0)) => ?_)
      · rw [if_pos hc6] at hf
        refine hG.1 3 65 kb_24_65 _ _ _ rfl ?_
        cases hf
        exact hk
      · rw [if_neg hc6] at hf
        obtain ⟨r4, cr4, hf⟩ := Option.bind_eq_some_iff.mp hf
        refine And.intro hg2 (And.intro (Nat.le_of_ble_eq_true rfl) (And.intro (Nat.le_of_ble_eq_true rfl) (Exists.intro (some (.int r4)) (Exists.intro _ (And.intro (l_11 cr4) (?_))))))
        refine And.intro (fun (hc5 : ¬ r4 = v4) => ?_) (fun (hc5 : ¬ (¬ r4 = v4)) => ?_)
        · rw [if_pos hc5] at hf
          refine hG.1 3 65 kb_24_65 _ _ _ rfl ?_
          cases hf
          exact hk
        · rw [if_neg hc5] at hf
          refine hG.1 3 65 kb_24_65 _ _ _ rfl ?_
          cases hf
          exact hk
  have hl_8 : ∀ (v0 : Nat) (v1 : Int32) (n_ : Nat) (s : Int32 × Int32 × Int32) (e : Int32), pb_wl (f_24_8s N h v0 v1) n_ s = some e → G 89 [(3, .int e)] [] h → G 8 [(0, .ref v0), (1, .int v1), (2, .int s.1), (3, .int s.2.1), (4, .int s.2.2)] [] h := by
    intro v0 v1
    refine pb_wl_ind (I := fun (s : Int32 × Int32 × Int32) => G 8 [(0, .ref v0), (1, .int v1), (2, .int s.1), (3, .int s.2.1), (4, .int s.2.2)] [] h) (K := fun (e : Int32) => G 89 [(3, .int e)] [] h) (fun s x hf hk => ?_)
    unfold f_24_8s at hf
    refine hG.1 1 8 kb_24_8 _ _ _ rfl ?_
    obtain ⟨hg1, hf⟩ := pb_gd hf
    refine And.intro hg1 (?_)
    refine And.intro (fun (hc11 : (pb_I h v0 0) ≤ s.2.2) => ?_) (fun (hc11 : ¬ ((pb_I h v0 0) ≤ s.2.2)) => ?_)
    · rw [if_pos hc11] at hf
      cases hf
      exact hG.2 89 _ [3] _ _ _ rfl hk
    · rw [if_neg hc11] at hf
      refine And.intro (fun (hc10 : ((v1 >>> (s.2.2 &&& 31)) &&& 1) = 0) => ?_) (fun (hc10 : ¬ (((v1 >>> (s.2.2 &&& 31)) &&& 1) = 0)) => ?_)
      · rw [if_pos hc10] at hf
        refine hG.1 5 83 kb_24_83 _ _ _ rfl ?_
        cases hf
        exact hk
      · rw [if_neg hc10] at hf
        obtain ⟨e8, he_e8, hf⟩ := Option.bind_eq_some_iff.mp hf
        refine hl_32 _ _ _ _ _ _ _ _ he_e8 ?_
        refine hG.1 4 71 kb_24_71 _ _ _ rfl ?_
        refine And.intro (fun (hc9 : s.1 < e8) => ?_) (fun (hc9 : ¬ (s.1 < e8)) => ?_)
        · rw [if_pos hc9] at hf
          refine hG.1 5 83 kb_24_83 _ _ _ rfl ?_
          cases hf
          exact hG.2 8 _ [0, 1, 2, 3, 4] _ _ _ rfl hk
        · rw [if_neg hc9] at hf
          refine hG.1 5 83 kb_24_83 _ _ _ rfl ?_
          cases hf
          exact hG.2 8 _ [0, 1, 2, 3, 4] _ _ _ rfl hk
  unfold f_24 at hf
  refine hG.1 0 0 kb_24_0 _ _ _ rfl ?_
  obtain ⟨e12, he_e12, hf⟩ := Option.bind_eq_some_iff.mp hf
  refine hl_8 _ _ _ _ _ he_e12 ?_
  refine hG.1 6 89 kb_24_89 _ _ _ rfl ?_
  cases hf
  exact And.intro (fun z_ => absurd z_ (by decide)) (And.intro rfl rfl)
def f_25_22s (N : Nat) (h : pb_HP) (v0 : Nat) (v1 : Int32) (v2 : Int32) (v3 : Int32) (s : Int32 × Int32 × Int32) : Option ((Int32 × Int32 × Int32) ⊕ (Int32 × Int32)) :=
  if 6 ≤ s.2.2 then (some (.inr ((s.1, s.2.1)))) else (if pb_is h v0 0 then ((f_26 N h v0 v1 v2 s.2.2).bind fun r4 => (if r4 = ((-1)) then (some (.inl ((s.1, s.2.1, s.2.2 + 1)))) else (if s.1 = ((-1)) then (some (.inl ((r4, s.2.2, s.2.2 + 1)))) else (if s.1 ≤ r4 then (some (.inl ((s.1, s.2.1, s.2.2 + 1)))) else (some (.inl ((r4, s.2.2, s.2.2 + 1)))))))) else none)
/-- County.fewestBuns -/
def f_25 (N : Nat) (h : pb_HP) (v0 : Nat) (v1 : Int32) (v2 : Int32) (v3 : Int32) : Option (Int32) :=
  if pb_is h v0 0 then ((f_11 N h v0 v1 63).bind fun r2 => (if ¬ r2 = v2 then ((pb_wl (f_25_22s N h v0 v1 v2 v3) N (((-1), (-1), 0))).bind fun e9 => (if v3 = 0 then (some e9.1) else (some e9.2))) else (some 0))) else none
set_option maxRecDepth 4000 in
theorem l_25 {xs : List Int32} {d : Nat} {N : Nat} {h : pb_HP} {v0 : Nat} {v1 : Int32} {v2 : Int32} {v3 : Int32} {r : Int32} (hf : f_25 N h v0 v1 v2 v3 = some r) : pb_AR xs (d + 3) 25 h [.ref v0, .int v1, .int v2, .int v3] (some (.int r)) h := by
  intro G hG
  have hc_ : pb_CODE 25 = kc_25 := rfl
  rw [hc_] at hG
  have hl_22 : ∀ (v0 : Nat) (v1 : Int32) (v2 : Int32) (v3 : Int32) (n_ : Nat) (s : Int32 × Int32 × Int32) (e : Int32 × Int32), pb_wl (f_25_22s N h v0 v1 v2 v3) n_ s = some e → G 72 [(3, .int v3), (4, .int e.1), (5, .int e.2)] [] h → G 22 [(0, .ref v0), (1, .int v1), (2, .int v2), (3, .int v3), (4, .int s.1), (5, .int s.2.1), (6, .int s.2.2)] [] h := by
    intro v0 v1 v2 v3
    refine pb_wl_ind (I := fun (s : Int32 × Int32 × Int32) => G 22 [(0, .ref v0), (1, .int v1), (2, .int v2), (3, .int v3), (4, .int s.1), (5, .int s.2.1), (6, .int s.2.2)] [] h) (K := fun (e : Int32 × Int32) => G 72 [(3, .int v3), (4, .int e.1), (5, .int e.2)] [] h) (fun s x hf hk => ?_)
    unfold f_25_22s at hf
    refine hG.1 2 22 kb_25_22 _ _ _ rfl ?_
    refine And.intro (fun (hc8 : 6 ≤ s.2.2) => ?_) (fun (hc8 : ¬ (6 ≤ s.2.2)) => ?_)
    · rw [if_pos hc8] at hf
      cases hf
      exact hG.2 72 _ [3, 4, 5] _ _ _ rfl hk
    · rw [if_neg hc8] at hf
      obtain ⟨hg3, hf⟩ := pb_gd hf
      obtain ⟨r4, cr4, hf⟩ := Option.bind_eq_some_iff.mp hf
      refine And.intro hg3 (And.intro (Nat.le_of_ble_eq_true rfl) (And.intro (Nat.le_of_ble_eq_true rfl) (Exists.intro (some (.int r4)) (Exists.intro _ (And.intro (l_26 cr4) (?_))))))
      refine And.intro (fun (hc7 : r4 = ((-1))) => ?_) (fun (hc7 : ¬ (r4 = ((-1)))) => ?_)
      · rw [if_pos hc7] at hf
        refine hG.1 4 66 kb_25_66 _ _ _ rfl ?_
        cases hf
        exact hG.2 22 _ [0, 1, 2, 3, 4, 5, 6] _ _ _ rfl hk
      · rw [if_neg hc7] at hf
        refine And.intro (fun (hc6 : s.1 = ((-1))) => ?_) (fun (hc6 : ¬ (s.1 = ((-1)))) => ?_)
        · rw [if_pos hc6] at hf
          refine hG.1 3 58 kb_25_58 _ _ _ rfl ?_
          refine hG.1 4 66 kb_25_66 _ _ _ rfl ?_
          cases hf
          exact hG.2 22 _ [0, 1, 2, 3, 4, 5, 6] _ _ _ rfl hk
        · rw [if_neg hc6] at hf
          refine And.intro (fun (hc5 : s.1 ≤ r4) => ?_) (fun (hc5 : ¬ (s.1 ≤ r4)) => ?_)
          · rw [if_pos hc5] at hf
            refine hG.1 4 66 kb_25_66 _ _ _ rfl ?_
            cases hf
            exact hG.2 22 _ [0, 1, 2, 3, 4, 5, 6] _ _ _ rfl hk
          · rw [if_neg hc5] at hf
            refine hG.1 3 58 kb_25_58 _ _ _ rfl ?_
            refine hG.1 4 66 kb_25_66 _ _ _ rfl ?_
            cases hf
            exact hG.2 22 _ [0, 1, 2, 3, 4, 5, 6] _ _ _ rfl hk
  unfold f_25 at hf
  refine hG.1 0 0 kb_25_0 _ _ _ rfl ?_
  obtain ⟨hg1, hf⟩ := pb_gd hf
  obtain ⟨r2, cr2, hf⟩ := Option.bind_eq_some_iff.mp hf
  refine And.intro hg1 (And.intro (Nat.le_of_ble_eq_true rfl) (And.intro (Nat.le_of_ble_eq_true rfl) (Exists.intro (some (.int r2)) (Exists.intro _ (And.intro (l_11 cr2) (?_))))))
  refine And.intro (fun (hc11 : ¬ r2 = v2) => ?_) (fun (hc11 : ¬ (¬ r2 = v2)) => ?_)
  · rw [if_pos hc11] at hf
    refine hG.1 1 13 kb_25_13 _ _ _ rfl ?_
    obtain ⟨e9, he_e9, hf⟩ := Option.bind_eq_some_iff.mp hf
    refine hl_22 _ _ _ _ _ _ _ he_e9 ?_
    refine hG.1 5 72 kb_25_72 _ _ _ rfl ?_
    refine And.intro (fun (hc10 : v3 = 0) => ?_) (fun (hc10 : ¬ (v3 = 0)) => ?_)
    · rw [if_pos hc10] at hf
      refine hG.1 6 81 kb_25_81 _ _ _ rfl ?_
      refine hG.1 7 83 kb_25_83 _ _ _ rfl ?_
      cases hf
      exact And.intro (fun z_ => absurd z_ (by decide)) (And.intro rfl rfl)
    · rw [if_neg hc10] at hf
      refine hG.1 7 83 kb_25_83 _ _ _ rfl ?_
      cases hf
      exact And.intro (fun z_ => absurd z_ (by decide)) (And.intro rfl rfl)
  · rw [if_neg hc11] at hf
    cases hf
    exact And.intro (fun z_ => absurd z_ (by decide)) (And.intro rfl rfl)
def f_50_18s (N : Nat) (v0 : Nat) (v1 : Nat) (s : Int32 × pb_HP) : Option ((Int32 × pb_HP) ⊕ (pb_HP)) :=
  if pb_is s.2 v1 0 then (if (pb_I s.2 v1 1) ≤ s.1 then (some (.inr s.2)) else ((f_7 s.2 v1 s.1).bind fun r7 => (if r7 = 0 then (some (.inl ((s.1 + 1, s.2)))) else (if pb_is s.2 v0 2 then ((f_51 N s.2 v0 v1 s.1).bind fun h10 => (some (.inl ((s.1 + 1, h10))))) else none)))) else none
/-- Duels.hold -/
def f_50 (N : Nat) (h : pb_HP) (v0 : Nat) (v1 : Nat) : Option (pb_HP) :=
  if pb_is h v1 0 then (if pb_is h v0 2 then ((pb_R h v0 2).bind fun q3 => ((f_306 N (pb_pI h v0 1 (pb_I h v1 0)) q3 0).bind fun h5 => ((pb_wl (f_50_18s N v0 v1) N ((0, h5))).bind fun e13 => (some e13)))) else none) else none
set_option maxRecDepth 4000 in
theorem l_50 {xs : List Int32} {d : Nat} {N : Nat} {h : pb_HP} {v0 : Nat} {v1 : Nat} {hE : pb_HP} (hf : f_50 N h v0 v1 = some hE) : pb_AR xs (d + 3) 50 h [.ref v0, .ref v1] none hE := by
  intro G hG
  have hc_ : pb_CODE 50 = kc_50 := rfl
  rw [hc_] at hG
  have hl_18 : ∀ (v0 : Nat) (v1 : Nat) (n_ : Nat) (s : Int32 × pb_HP) (e : pb_HP), pb_wl (f_50_18s N v0 v1) n_ s = some e → G 46 [] [] e → G 18 [(0, .ref v0), (1, .ref v1), (2, .int s.1)] [] s.2 := by
    intro v0 v1
    refine pb_wl_ind (I := fun (s : Int32 × pb_HP) => G 18 [(0, .ref v0), (1, .ref v1), (2, .int s.1)] [] s.2) (K := fun (e : pb_HP) => G 46 [] [] e) (fun s x hf hk => ?_)
    unfold f_50_18s at hf
    refine hG.1 1 18 kb_50_18 _ _ _ rfl ?_
    obtain ⟨hg6, hf⟩ := pb_gd hf
    refine And.intro hg6 (?_)
    refine And.intro (fun (hc12 : (pb_I s.2 v1 1) ≤ s.1) => ?_) (fun (hc12 : ¬ ((pb_I s.2 v1 1) ≤ s.1)) => ?_)
    · rw [if_pos hc12] at hf
      cases hf
      exact hG.2 46 _ [] _ _ _ rfl hk
    · rw [if_neg hc12] at hf
      obtain ⟨r7, cr7, hf⟩ := Option.bind_eq_some_iff.mp hf
      refine And.intro hg6 (And.intro (Nat.le_of_ble_eq_true rfl) (And.intro (Nat.le_of_ble_eq_true rfl) (Exists.intro (some (.int r7)) (Exists.intro _ (And.intro (l_7 cr7) (?_))))))
      refine And.intro (fun (hc11 : r7 = 0) => ?_) (fun (hc11 : ¬ (r7 = 0)) => ?_)
      · rw [if_pos hc11] at hf
        refine hG.1 2 40 kb_50_40 _ _ _ rfl ?_
        cases hf
        exact hk
      · rw [if_neg hc11] at hf
        obtain ⟨hg8, hf⟩ := pb_gd hf
        obtain ⟨h10, cr9, hf⟩ := Option.bind_eq_some_iff.mp hf
        refine And.intro hg8 (And.intro (Nat.le_of_ble_eq_true rfl) (And.intro (Nat.le_of_ble_eq_true rfl) (Exists.intro none (Exists.intro _ (And.intro (l_51 cr9) (?_))))))
        refine hG.1 2 40 kb_50_40 _ _ _ rfl ?_
        cases hf
        exact hk
  unfold f_50 at hf
  refine hG.1 0 0 kb_50_0 _ _ _ rfl ?_
  obtain ⟨hg1, hf⟩ := pb_gd hf
  obtain ⟨hg2, hf⟩ := pb_gd hf
  obtain ⟨q3, eq3, hf⟩ := Option.bind_eq_some_iff.mp hf
  refine And.intro hg1 (And.intro hg2 (And.intro hg2 (Exists.intro q3 (And.intro eq3 (?_)))))
  obtain ⟨h5, cr4, hf⟩ := Option.bind_eq_some_iff.mp hf
  refine And.intro (Nat.le_of_ble_eq_true rfl) (And.intro (Nat.le_of_ble_eq_true rfl) (And.intro (Nat.le_of_ble_eq_true rfl) (Exists.intro none (Exists.intro _ (And.intro (l_306 cr4) (?_))))))
  obtain ⟨e13, he_e13, hf⟩ := Option.bind_eq_some_iff.mp hf
  refine hl_18 _ _ _ _ _ he_e13 ?_
  refine hG.1 3 46 kb_50_46 _ _ _ rfl ?_
  cases hf
  exact And.intro rfl rfl
def f_55_2s (N : Nat) (v0 : Nat) (v1 : Int32) (s : Int32 × pb_HP) : Option ((Int32 × pb_HP) ⊕ (pb_HP)) :=
  if 6 ≤ s.1 then (some (.inr s.2)) else (if pb_is s.2 v0 2 then ((pb_R s.2 v0 0).bind fun q2 => (if pb_ar s.2 q2 12 s.1 then (some (.inl ((s.1 + 1, pb_pI s.2 q2 s.1.toNatClampNeg s.1)))) else none)) else none)
def f_55_23s (N : Nat) (v0 : Nat) (v1 : Int32) (s : Int32 × pb_HP) : Option ((Int32 × pb_HP) ⊕ ((Int32 × pb_HP) ⊕ (pb_HP))) :=
  if 720 ≤ s.1 then (some (.inr (.inr s.2))) else (if pb_is s.2 v0 2 then ((f_56 N s.2 v0).bind fun r7 => (if ¬ r7 = v1 then ((f_57 N s.2 v0).bind fun (r8, h9) => (if ¬ r8 = 0 then (some (.inl ((s.1 + 1, h9)))) else (some (.inr (.inl ((0, h9))))))) else (some (.inr (.inl ((1, s.2))))))) else none)
/-- Duels.findRow -/
def f_55 (N : Nat) (h : pb_HP) (v0 : Nat) (v1 : Int32) : Option (Int32 × pb_HP) :=
  (pb_wl (f_55_2s N v0 v1) N ((0, h))).bind fun e5 => ((pb_wl (f_55_23s N v0 v1) N ((0, e5))).bind fun e13 => (match e13 with | .inl q15 => some q15 | .inr x14 => some ((0, x14))))
set_option maxRecDepth 4000 in
theorem l_55 {xs : List Int32} {d : Nat} {N : Nat} {h : pb_HP} {v0 : Nat} {v1 : Int32} {r : Int32} {hE : pb_HP} (hf : f_55 N h v0 v1 = some ((r, hE))) : pb_AR xs (d + 3) 55 h [.ref v0, .int v1] (some (.int r)) hE := by
  intro G hG
  have hc_ : pb_CODE 55 = kc_55 := rfl
  rw [hc_] at hG
  have hl_2 : ∀ (v0 : Nat) (v1 : Int32) (n_ : Nat) (s : Int32 × pb_HP) (e : pb_HP), pb_wl (f_55_2s N v0 v1) n_ s = some e → G 21 [(0, .ref v0), (1, .int v1)] [] e → G 2 [(0, .ref v0), (1, .int v1), (2, .int s.1)] [] s.2 := by
    intro v0 v1
    refine pb_wl_ind (I := fun (s : Int32 × pb_HP) => G 2 [(0, .ref v0), (1, .int v1), (2, .int s.1)] [] s.2) (K := fun (e : pb_HP) => G 21 [(0, .ref v0), (1, .int v1)] [] e) (fun s x hf hk => ?_)
    unfold f_55_2s at hf
    refine hG.1 1 2 kb_55_2 _ _ _ rfl ?_
    refine And.intro (fun (hc4 : 6 ≤ s.1) => ?_) (fun (hc4 : ¬ (6 ≤ s.1)) => ?_)
    · rw [if_pos hc4] at hf
      cases hf
      exact hG.2 21 _ [0, 1] _ _ _ rfl hk
    · rw [if_neg hc4] at hf
      obtain ⟨hg1, hf⟩ := pb_gd hf
      obtain ⟨q2, eq2, hf⟩ := Option.bind_eq_some_iff.mp hf
      obtain ⟨hg3, hf⟩ := pb_gd hf
      refine And.intro hg1 (Exists.intro q2 (And.intro eq2 (And.intro hg3 (?_))))
      cases hf
      exact hk
  have hl_23 : ∀ (v0 : Nat) (v1 : Int32) (n_ : Nat) (s : Int32 × pb_HP) (e : (Int32 × pb_HP) ⊕ (pb_HP)), pb_wl (f_55_23s N v0 v1) n_ s = some e → pb_kk (fun (q_ : Int32 × pb_HP) => q_ = (r, hE)) (fun (x_ : pb_HP) => G 55 [] [] x_) e → G 23 [(0, .ref v0), (1, .int v1), (2, .int s.1)] [] s.2 := by
    intro v0 v1
    refine pb_wl_ind (I := fun (s : Int32 × pb_HP) => G 23 [(0, .ref v0), (1, .int v1), (2, .int s.1)] [] s.2) (K := fun (e : (Int32 × pb_HP) ⊕ (pb_HP)) => pb_kk (fun (q_ : Int32 × pb_HP) => q_ = (r, hE)) (fun (x_ : pb_HP) => G 55 [] [] x_) e) (fun s x hf hk => ?_)
    unfold f_55_23s at hf
    refine hG.1 3 23 kb_55_23 _ _ _ rfl ?_
    refine And.intro (fun (hc12 : 720 ≤ s.1) => ?_) (fun (hc12 : ¬ (720 ≤ s.1)) => ?_)
    · rw [if_pos hc12] at hf
      cases hf
      exact hG.2 55 _ [] _ _ _ rfl hk
    · rw [if_neg hc12] at hf
      obtain ⟨hg6, hf⟩ := pb_gd hf
      obtain ⟨r7, cr7, hf⟩ := Option.bind_eq_some_iff.mp hf
      refine And.intro hg6 (And.intro (Nat.le_of_ble_eq_true rfl) (And.intro (Nat.le_of_ble_eq_true rfl) (Exists.intro (some (.int r7)) (Exists.intro _ (And.intro (l_56 cr7) (?_))))))
      refine And.intro (fun (hc11 : ¬ r7 = v1) => ?_) (fun (hc11 : ¬ (¬ r7 = v1)) => ?_)
      · rw [if_pos hc11] at hf
        refine hG.1 4 40 kb_55_40 _ _ _ rfl ?_
        obtain ⟨⟨r8, h9⟩, cr8, hf⟩ := Option.bind_eq_some_iff.mp hf
        try dsimp only at hf
        refine And.intro hg6 (And.intro (Nat.le_of_ble_eq_true rfl) (And.intro (Nat.le_of_ble_eq_true rfl) (Exists.intro (some (.int r8)) (Exists.intro _ (And.intro (l_57 cr8) (?_))))))
        refine And.intro (fun (hc10 : ¬ r8 = 0) => ?_) (fun (hc10 : ¬ (¬ r8 = 0)) => ?_)
        · rw [if_pos hc10] at hf
          refine hG.1 5 49 kb_55_49 _ _ _ rfl ?_
          cases hf
          exact hk
        · rw [if_neg hc10] at hf
          cases hf
          cases hk
          exact And.intro (fun _ => Or.inl rfl) (And.intro rfl rfl)
      · rw [if_neg hc11] at hf
        cases hf
        cases hk
        exact And.intro (fun _ => Or.inr rfl) (And.intro rfl rfl)
  unfold f_55 at hf
  refine hG.1 0 0 kb_55_0 _ _ _ rfl ?_
  obtain ⟨e5, he_e5, hf⟩ := Option.bind_eq_some_iff.mp hf
  refine hl_2 _ _ _ _ _ he_e5 ?_
  refine hG.1 2 21 kb_55_21 _ _ _ rfl ?_
  obtain ⟨e13, he_e13, hf⟩ := Option.bind_eq_some_iff.mp hf
  refine hl_23 _ _ _ _ _ he_e13 ?_
  cases e13 with
  | inl q15 =>
    exact Option.some.inj hf
  | inr x14 =>
    try dsimp only at hf
    refine hG.1 6 55 kb_55_55 _ _ _ rfl ?_
    cases hf
    exact And.intro (fun _ => Or.inl rfl) (And.intro rfl rfl)
def f_61_58 (N : Nat) (h : pb_HP) (v0 : Nat) (v1 : Nat) (v2 : Int32) (v3 : Int32) (s0 : Int32) (s1 : Int32) : Option ((Int32) ⊕ ((Int32) ⊕ (Unit))) :=
  if s1 = s0 then (some (.inl (v3 + 1))) else (some (.inr (.inl 0)))
def f_61_40 (N : Nat) (h : pb_HP) (v0 : Nat) (v1 : Nat) (v2 : Int32) (v3 : Int32) (s0 : Int32) : Option ((Int32) ⊕ ((Int32) ⊕ (Unit))) :=
  if pb_is h v1 4 then ((pb_R h v1 1).bind fun q10 => (if pb_ar h q10 12 v3 then (if ¬ (pb_I h q10 v3.toNatClampNeg) = 0 then (f_61_58 N h v0 v1 v2 v3 0 s0) else (f_61_58 N h v0 v1 v2 v3 1 s0)) else none)) else none
def f_61_2s (N : Nat) (h : pb_HP) (v0 : Nat) (v1 : Nat) (v2 : Int32) (s : Int32) : Option ((Int32) ⊕ ((Int32) ⊕ (Unit))) :=
  if pb_is h v1 4 then (if (pb_I h v1 0) ≤ s then (some (.inr (.inr (())))) else ((pb_R h v1 2).bind fun q2 => (if pb_ar h q2 12 s then (if pb_is h v0 3 then ((f_62 h v0 v2 (pb_I h q2 s.toNatClampNeg)).bind fun r5 => ((pb_R h v1 3).bind fun q6 => (if pb_ar h q6 12 s then ((f_62 h v0 v2 (pb_I h q6 s.toNatClampNeg)).bind fun r8 => (if r5 ≤ r8 then (f_61_40 N h v0 v1 v2 s 0) else (f_61_40 N h v0 v1 v2 s 1))) else none))) else none) else none))) else none
/-- Likings.fitsAll -/
def f_61 (N : Nat) (h : pb_HP) (v0 : Nat) (v1 : Nat) (v2 : Int32) : Option (Int32) :=
  (pb_wl (f_61_2s N h v0 v1 v2) N 0).bind fun e16 => (match e16 with | .inl q18 => some q18 | .inr x17 => some 1)
set_option maxRecDepth 4000 in
theorem l_61 {xs : List Int32} {d : Nat} {N : Nat} {h : pb_HP} {v0 : Nat} {v1 : Nat} {v2 : Int32} {r : Int32} (hf : f_61 N h v0 v1 v2 = some r) : pb_AR xs (d + 3) 61 h [.ref v0, .ref v1, .int v2] (some (.int r)) h := by
  intro G hG
  have hc_ : pb_CODE 61 = kc_61 := rfl
  rw [hc_] at hG
  have hj_58 : ∀ (v0 : Nat) (v1 : Nat) (v2 : Int32) (v3 : Int32) (s0 : Int32) (s1 : Int32) x, f_61_58 N h v0 v1 v2 v3 s0 s1 = some x → pb_kk (fun (s_ : Int32) => G 2 [(0, .ref v0), (1, .ref v1), (2, .int v2), (3, .int s_)] [] h) (fun (e_ : (Int32) ⊕ (Unit)) => pb_kk (fun (q_ : Int32) => q_ = r) (fun (x_ : Unit) => G 69 [] [] h) e_) x → G 58 [(0, .ref v0), (1, .ref v1), (2, .int v2), (3, .int v3)] [.int s0, .int s1] h := by
    intro v0 v1 v2 v3 s0 s1 x hf hk
    unfold f_61_58 at hf
    refine hG.1 5 58 kb_61_58 _ _ _ rfl ?_
    refine And.intro (fun (hc12 : s1 = s0) => ?_) (fun (hc12 : ¬ (s1 = s0)) => ?_)
    · rw [if_pos hc12] at hf
      refine hG.1 6 63 kb_61_63 _ _ _ rfl ?_
      cases hf
      exact hk
    · rw [if_neg hc12] at hf
      cases hf
      cases hk
      exact And.intro (fun _ => Or.inl rfl) (And.intro rfl rfl)
  have hj_40 : ∀ (v0 : Nat) (v1 : Nat) (v2 : Int32) (v3 : Int32) (s0 : Int32) x, f_61_40 N h v0 v1 v2 v3 s0 = some x → pb_kk (fun (s_ : Int32) => G 2 [(0, .ref v0), (1, .ref v1), (2, .int v2), (3, .int s_)] [] h) (fun (e_ : (Int32) ⊕ (Unit)) => pb_kk (fun (q_ : Int32) => q_ = r) (fun (x_ : Unit) => G 69 [] [] h) e_) x → G 40 [(0, .ref v0), (1, .ref v1), (2, .int v2), (3, .int v3)] [.int s0] h := by
    intro v0 v1 v2 v3 s0 x hf hk
    unfold f_61_40 at hf
    refine hG.1 3 40 kb_61_40 _ _ _ rfl ?_
    obtain ⟨hg9, hf⟩ := pb_gd hf
    obtain ⟨q10, eq10, hf⟩ := Option.bind_eq_some_iff.mp hf
    obtain ⟨hg11, hf⟩ := pb_gd hf
    refine And.intro hg9 (Exists.intro q10 (And.intro eq10 (And.intro hg11 (?_))))
    refine And.intro (fun (hc13 : ¬ (pb_I h q10 v3.toNatClampNeg) = 0) => ?_) (fun (hc13 : ¬ (¬ (pb_I h q10 v3.toNatClampNeg) = 0)) => ?_)
    · rw [if_pos hc13] at hf
      refine hG.1 4 57 kb_61_57 _ _ _ rfl ?_
      refine hG.2 58 _ [0, 1, 2, 3] _ _ _ rfl ?_
      exact hj_58 _ _ _ _ _ _ _ hf hk
    · rw [if_neg hc13] at hf
      refine hG.2 58 _ [0, 1, 2, 3] _ _ _ rfl ?_
      exact hj_58 _ _ _ _ _ _ _ hf hk
  have hl_2 : ∀ (v0 : Nat) (v1 : Nat) (v2 : Int32) (n_ : Nat) (s : Int32) (e : (Int32) ⊕ (Unit)), pb_wl (f_61_2s N h v0 v1 v2) n_ s = some e → pb_kk (fun (q_ : Int32) => q_ = r) (fun (x_ : Unit) => G 69 [] [] h) e → G 2 [(0, .ref v0), (1, .ref v1), (2, .int v2), (3, .int s)] [] h := by
    intro v0 v1 v2
    refine pb_wl_ind (I := fun (s : Int32) => G 2 [(0, .ref v0), (1, .ref v1), (2, .int v2), (3, .int s)] [] h) (K := fun (e : (Int32) ⊕ (Unit)) => pb_kk (fun (q_ : Int32) => q_ = r) (fun (x_ : Unit) => G 69 [] [] h) e) (fun s x hf hk => ?_)
    unfold f_61_2s at hf
    refine hG.1 1 2 kb_61_2 _ _ _ rfl ?_
    obtain ⟨hg1, hf⟩ := pb_gd hf
    refine And.intro hg1 (?_)
    refine And.intro (fun (hc15 : (pb_I h v1 0) ≤ s) => ?_) (fun (hc15 : ¬ ((pb_I h v1 0) ≤ s)) => ?_)
    · rw [if_pos hc15] at hf
      cases hf
      exact hG.2 69 _ [] _ _ _ rfl hk
    · rw [if_neg hc15] at hf
      obtain ⟨q2, eq2, hf⟩ := Option.bind_eq_some_iff.mp hf
      obtain ⟨hg3, hf⟩ := pb_gd hf
      obtain ⟨hg4, hf⟩ := pb_gd hf
      refine And.intro hg1 (Exists.intro q2 (And.intro eq2 (And.intro hg3 (?_))))
      obtain ⟨r5, cr5, hf⟩ := Option.bind_eq_some_iff.mp hf
      refine And.intro hg4 (And.intro (Nat.le_of_ble_eq_true rfl) (And.intro (Nat.le_of_ble_eq_true rfl) (Exists.intro (some (.int r5)) (Exists.intro _ (And.intro (l_62 cr5) (?_))))))
      obtain ⟨q6, eq6, hf⟩ := Option.bind_eq_some_iff.mp hf
      obtain ⟨hg7, hf⟩ := pb_gd hf
      refine And.intro hg1 (Exists.intro q6 (And.intro eq6 (And.intro hg7 (?_))))
      obtain ⟨r8, cr8, hf⟩ := Option.bind_eq_some_iff.mp hf
      refine And.intro hg4 (And.intro (Nat.le_of_ble_eq_true rfl) (And.intro (Nat.le_of_ble_eq_true rfl) (Exists.intro (some (.int r8)) (Exists.intro _ (And.intro (l_62 cr8) (?_))))))
      refine And.intro (fun (hc14 : r5 ≤ r8) => ?_) (fun (hc14 : ¬ (r5 ≤ r8)) => ?_)
      · rw [if_pos hc14] at hf
        refine hG.1 2 39 kb_61_39 _ _ _ rfl ?_
        exact hj_40 _ _ _ _ _ _ hf hk
      · rw [if_neg hc14] at hf
        exact hj_40 _ _ _ _ _ _ hf hk
  unfold f_61 at hf
  refine hG.1 0 0 kb_61_0 _ _ _ rfl ?_
  obtain ⟨e16, he_e16, hf⟩ := Option.bind_eq_some_iff.mp hf
  refine hl_2 _ _ _ _ _ _ he_e16 ?_
  cases e16 with
  | inl q18 =>
    exact Option.some.inj hf
  | inr x17 =>
    try dsimp only at hf
    refine hG.1 7 69 kb_61_69 _ _ _ rfl ?_
    cases hf
    exact And.intro (fun _ => Or.inr rfl) (And.intro rfl rfl)
def f_64_4s (N : Nat) (h : pb_HP) (v0 : Nat) (v1 : Int32) (s : Int32 × Int32) : Option ((Int32 × Int32) ⊕ ((Int32) ⊕ (Int32))) :=
  if pb_is h v0 3 then (if (pb_I h v0 0) ≤ s.2 then (some (.inr (.inr s.1))) else ((pb_R h v0 1).bind fun q2 => (if pb_ar h q2 12 s.2 then ((f_62 h v0 (pb_I h q2 s.2.toNatClampNeg) ((1 : Int32) <<< (v1 &&& 31))).bind fun r4 => (if s.1 = ((-1)) then (some (.inl ((r4, s.2 + 1)))) else (if r4 = s.1 then (some (.inl ((r4, s.2 + 1)))) else (some (.inr (.inl ((-1)))))))) else none))) else none
/-- Likings.sureOf -/
def f_64 (N : Nat) (h : pb_HP) (v0 : Nat) (v1 : Int32) : Option (Int32) :=
  (pb_wl (f_64_4s N h v0 v1) N (((-1), 0))).bind fun e8 => (match e8 with | .inl q10 => some q10 | .inr x9 => some x9)
set_option maxRecDepth 4000 in
theorem l_64 {xs : List Int32} {d : Nat} {N : Nat} {h : pb_HP} {v0 : Nat} {v1 : Int32} {r : Int32} (hf : f_64 N h v0 v1 = some r) : pb_AR xs (d + 3) 64 h [.ref v0, .int v1] (some (.int r)) h := by
  intro G hG
  have hc_ : pb_CODE 64 = kc_64 := rfl
  rw [hc_] at hG
  have hl_4 : ∀ (v0 : Nat) (v1 : Int32) (n_ : Nat) (s : Int32 × Int32) (e : (Int32) ⊕ (Int32)), pb_wl (f_64_4s N h v0 v1) n_ s = some e → pb_kk (fun (q_ : Int32) => q_ = r) (fun (x_ : Int32) => G 49 [(2, .int x_)] [] h) e → G 4 [(0, .ref v0), (1, .int v1), (2, .int s.1), (3, .int s.2)] [] h := by
    intro v0 v1
    refine pb_wl_ind (I := fun (s : Int32 × Int32) => G 4 [(0, .ref v0), (1, .int v1), (2, .int s.1), (3, .int s.2)] [] h) (K := fun (e : (Int32) ⊕ (Int32)) => pb_kk (fun (q_ : Int32) => q_ = r) (fun (x_ : Int32) => G 49 [(2, .int x_)] [] h) e) (fun s x hf hk => ?_)
    unfold f_64_4s at hf
    refine hG.1 1 4 kb_64_4 _ _ _ rfl ?_
    obtain ⟨hg1, hf⟩ := pb_gd hf
    refine And.intro hg1 (?_)
    refine And.intro (fun (hc7 : (pb_I h v0 0) ≤ s.2) => ?_) (fun (hc7 : ¬ ((pb_I h v0 0) ≤ s.2)) => ?_)
    · rw [if_pos hc7] at hf
      cases hf
      exact hG.2 49 _ [2] _ _ _ rfl hk
    · rw [if_neg hc7] at hf
      obtain ⟨q2, eq2, hf⟩ := Option.bind_eq_some_iff.mp hf
      obtain ⟨hg3, hf⟩ := pb_gd hf
      refine And.intro hg1 (Exists.intro q2 (And.intro eq2 (And.intro hg3 (?_))))
      obtain ⟨r4, cr4, hf⟩ := Option.bind_eq_some_iff.mp hf
      refine And.intro hg1 (And.intro (Nat.le_of_ble_eq_true rfl) (And.intro (Nat.le_of_ble_eq_true rfl) (Exists.intro (some (.int r4)) (Exists.intro _ (And.intro (l_62 cr4) (?_))))))
      refine And.intro (fun (hc6 : s.1 = ((-1))) => ?_) (fun (hc6 : ¬ (s.1 = ((-1)))) => ?_)
      · rw [if_pos hc6] at hf
        refine hG.1 2 40 kb_64_40 _ _ _ rfl ?_
        cases hf
        exact hG.2 4 _ [0, 1, 2, 3] _ _ _ rfl hk
      · rw [if_neg hc6] at hf
        refine And.intro (fun (hc5 : r4 = s.1) => ?_) (fun (hc5 : ¬ (r4 = s.1)) => ?_)
        · rw [if_pos hc5] at hf
          refine hG.1 2 40 kb_64_40 _ _ _ rfl ?_
          cases hf
          exact hG.2 4 _ [0, 1, 2, 3] _ _ _ rfl hk
        · rw [if_neg hc5] at hf
          cases hf
          cases hk
          exact And.intro (fun z_ => absurd z_ (by decide)) (And.intro rfl rfl)
  unfold f_64 at hf
  refine hG.1 0 0 kb_64_0 _ _ _ rfl ?_
  obtain ⟨e8, he_e8, hf⟩ := Option.bind_eq_some_iff.mp hf
  refine hl_4 _ _ _ _ _ he_e8 ?_
  cases e8 with
  | inl q10 =>
    exact Option.some.inj hf
  | inr x9 =>
    try dsimp only at hf
    refine hG.1 3 49 kb_64_49 _ _ _ rfl ?_
    cases hf
    exact And.intro (fun z_ => absurd z_ (by decide)) (And.intro rfl rfl)
def f_66_20s (N : Nat) (v0 : Nat) (v1 : Int32) (s : Int32 × pb_HP) : Option ((Int32 × pb_HP) ⊕ (pb_HP)) :=
  if 6 ≤ s.1 then (some (.inr s.2)) else (if pb_is s.2 v0 3 then ((pb_R s.2 v0 3).bind fun q7 => ((pb_R s.2 v0 1).bind fun q8 => (if pb_ar s.2 q8 12 v1 then ((f_62 s.2 v0 (pb_I s.2 q8 v1.toNatClampNeg) ((1 : Int32) <<< (s.1 &&& 31))).bind fun r10 => (if pb_ar s.2 q7 12 s.1 then (some (.inl ((s.1 + 1, pb_pI s.2 q7 s.1.toNatClampNeg r10)))) else none)) else none))) else none)
def f_66_61s (N : Nat) (v0 : Nat) (v1 : Int32) (v2 : Int32) (s : Int32 × pb_HP) : Option ((Int32 × pb_HP) ⊕ (pb_HP)) :=
  if v2 ≤ s.1 then (some (.inr s.2)) else (if pb_is s.2 v0 3 then ((pb_R s.2 v0 3).bind fun q15 => (if pb_ar s.2 q15 12 v2 then (if pb_ar s.2 q15 12 s.1 then (if (pb_I s.2 q15 v2.toNatClampNeg) ≤ (pb_I s.2 q15 s.1.toNatClampNeg) then (if (pb_I s.2 q15 s.1.toNatClampNeg) ≤ (pb_I s.2 q15 v2.toNatClampNeg) then (some (.inl ((s.1 + 1, s.2)))) else ((pb_R s.2 v0 4).bind fun q18 => (if pb_ar s.2 q18 12 ((s.1 * 6) + v2) then (some (.inl ((s.1 + 1, pb_pI s.2 q18 ((s.1 * 6) + v2).toNatClampNeg ((pb_I s.2 q18 ((s.1 * 6) + v2).toNatClampNeg) + 1))))) else none))) else ((pb_R s.2 v0 4).bind fun q21 => (if pb_ar s.2 q21 12 ((v2 * 6) + s.1) then (some (.inl ((s.1 + 1, pb_pI s.2 q21 ((v2 * 6) + s.1).toNatClampNeg ((pb_I s.2 q21 ((v2 * 6) + s.1).toNatClampNeg) + 1))))) else none))) else none) else none)) else none)
def f_66_53s (N : Nat) (v0 : Nat) (v1 : Int32) (s : Int32 × pb_HP) : Option ((Int32 × pb_HP) ⊕ (pb_HP)) :=
  if 6 ≤ s.1 then (some (.inr s.2)) else ((pb_wl (f_66_61s N v0 v1 s.1) N ((0, s.2))).bind fun e25 => (some (.inl ((s.1 + 1, e25)))))
def f_66_10s (N : Nat) (v0 : Nat) (s : Int32 × pb_HP) : Option ((Int32 × pb_HP) ⊕ (pb_HP)) :=
  if pb_is s.2 v0 3 then (if (pb_I s.2 v0 0) ≤ s.1 then (some (.inr s.2)) else ((pb_wl (f_66_20s N v0 s.1) N ((0, s.2))).bind fun e13 => ((pb_wl (f_66_53s N v0 s.1) N ((1, e13))).bind fun e27 => (some (.inl ((s.1 + 1, e27))))))) else none
/-- Likings.compareAll -/
def f_66 (N : Nat) (h : pb_HP) (v0 : Nat) : Option (pb_HP) :=
  if pb_is h v0 3 then ((pb_R h v0 4).bind fun q2 => ((f_306 N h q2 0).bind fun h4 => ((pb_wl (f_66_10s N v0) N ((0, h4))).bind fun e29 => (some e29)))) else none
set_option maxRecDepth 4000 in
theorem l_66 {xs : List Int32} {d : Nat} {N : Nat} {h : pb_HP} {v0 : Nat} {hE : pb_HP} (hf : f_66 N h v0 = some hE) : pb_AR xs (d + 3) 66 h [.ref v0] none hE := by
  intro G hG
  have hc_ : pb_CODE 66 = kc_66 := rfl
  rw [hc_] at hG
  have hl_20 : ∀ (v0 : Nat) (v1 : Int32) (n_ : Nat) (s : Int32 × pb_HP) (e : pb_HP), pb_wl (f_66_20s N v0 v1) n_ s = some e → G 51 [(0, .ref v0), (1, .int v1)] [] e → G 20 [(0, .ref v0), (1, .int v1), (2, .int s.1)] [] s.2 := by
    intro v0 v1
    refine pb_wl_ind (I := fun (s : Int32 × pb_HP) => G 20 [(0, .ref v0), (1, .int v1), (2, .int s.1)] [] s.2) (K := fun (e : pb_HP) => G 51 [(0, .ref v0), (1, .int v1)] [] e) (fun s x hf hk => ?_)
    unfold f_66_20s at hf
    refine hG.1 2 20 kb_66_20 _ _ _ rfl ?_
    refine And.intro (fun (hc12 : 6 ≤ s.1) => ?_) (fun (hc12 : ¬ (6 ≤ s.1)) => ?_)
    · rw [if_pos hc12] at hf
      cases hf
      exact hG.2 51 _ [0, 1] _ _ _ rfl hk
    · rw [if_neg hc12] at hf
      obtain ⟨hg6, hf⟩ := pb_gd hf
      obtain ⟨q7, eq7, hf⟩ := Option.bind_eq_some_iff.mp hf
      obtain ⟨q8, eq8, hf⟩ := Option.bind_eq_some_iff.mp hf
      obtain ⟨hg9, hf⟩ := pb_gd hf
      refine And.intro hg6 (Exists.intro q7 (And.intro eq7 (And.intro hg6 (Exists.intro q8 (And.intro eq8 (And.intro hg9 (?_)))))))
      obtain ⟨r10, cr10, hf⟩ := Option.bind_eq_some_iff.mp hf
      refine And.intro hg6 (And.intro (Nat.le_of_ble_eq_true rfl) (And.intro (Nat.le_of_ble_eq_true rfl) (Exists.intro (some (.int r10)) (Exists.intro _ (And.intro (l_62 cr10) (?_))))))
      obtain ⟨hg11, hf⟩ := pb_gd hf
      refine And.intro hg11 (?_)
      cases hf
      exact hk
  have hl_61 : ∀ (v0 : Nat) (v1 : Int32) (v2 : Int32) (n_ : Nat) (s : Int32 × pb_HP) (e : pb_HP), pb_wl (f_66_61s N v0 v1 v2) n_ s = some e → G 135 [(0, .ref v0), (1, .int v1), (2, .int v2)] [] e → G 61 [(0, .ref v0), (1, .int v1), (2, .int v2), (3, .int s.1)] [] s.2 := by
    intro v0 v1 v2
    refine pb_wl_ind (I := fun (s : Int32 × pb_HP) => G 61 [(0, .ref v0), (1, .int v1), (2, .int v2), (3, .int s.1)] [] s.2) (K := fun (e : pb_HP) => G 135 [(0, .ref v0), (1, .int v1), (2, .int v2)] [] e) (fun s x hf hk => ?_)
    unfold f_66_61s at hf
    refine hG.1 5 61 kb_66_61 _ _ _ rfl ?_
    refine And.intro (fun (hc24 : v2 ≤ s.1) => ?_) (fun (hc24 : ¬ (v2 ≤ s.1)) => ?_)
    · rw [if_pos hc24] at hf
      cases hf
      exact hG.2 135 _ [0, 1, 2] _ _ _ rfl hk
    · rw [if_neg hc24] at hf
      obtain ⟨hg14, hf⟩ := pb_gd hf
      obtain ⟨q15, eq15, hf⟩ := Option.bind_eq_some_iff.mp hf
      obtain ⟨hg16, hf⟩ := pb_gd hf
      obtain ⟨hg17, hf⟩ := pb_gd hf
      refine And.intro hg14 (Exists.intro q15 (And.intro eq15 (And.intro hg16 (And.intro hg14 (Exists.intro q15 (And.intro eq15 (And.intro hg17 (?_))))))))
      refine And.intro (fun (hc23 : (pb_I s.2 q15 v2.toNatClampNeg) ≤ (pb_I s.2 q15 s.1.toNatClampNeg)) => ?_) (fun (hc23 : ¬ ((pb_I s.2 q15 v2.toNatClampNeg) ≤ (pb_I s.2 q15 s.1.toNatClampNeg))) => ?_)
      · rw [if_pos hc23] at hf
        refine hG.1 6 99 kb_66_99 _ _ _ rfl ?_
        refine And.intro hg14 (Exists.intro q15 (And.intro eq15 (And.intro hg16 (And.intro hg14 (Exists.intro q15 (And.intro eq15 (And.intro hg17 (?_))))))))
        refine And.intro (fun (hc20 : (pb_I s.2 q15 s.1.toNatClampNeg) ≤ (pb_I s.2 q15 v2.toNatClampNeg)) => ?_) (fun (hc20 : ¬ ((pb_I s.2 q15 s.1.toNatClampNeg) ≤ (pb_I s.2 q15 v2.toNatClampNeg))) => ?_)
        · rw [if_pos hc20] at hf
          refine hG.1 7 129 kb_66_129 _ _ _ rfl ?_
          cases hf
          exact hk
        · rw [if_neg hc20] at hf
          obtain ⟨q18, eq18, hf⟩ := Option.bind_eq_some_iff.mp hf
          obtain ⟨hg19, hf⟩ := pb_gd hf
          refine And.intro hg14 (Exists.intro q18 (And.intro eq18 (And.intro hg19 (And.intro hg19 (?_)))))
          refine hG.1 7 129 kb_66_129 _ _ _ rfl ?_
          cases hf
          exact hk
      · rw [if_neg hc23] at hf
        obtain ⟨q21, eq21, hf⟩ := Option.bind_eq_some_iff.mp hf
        obtain ⟨hg22, hf⟩ := pb_gd hf
        refine And.intro hg14 (Exists.intro q21 (And.intro eq21 (And.intro hg22 (And.intro hg22 (?_)))))
        refine hG.1 7 129 kb_66_129 _ _ _ rfl ?_
        cases hf
        exact hk
  have hl_53 : ∀ (v0 : Nat) (v1 : Int32) (n_ : Nat) (s : Int32 × pb_HP) (e : pb_HP), pb_wl (f_66_53s N v0 v1) n_ s = some e → G 141 [(0, .ref v0), (1, .int v1)] [] e → G 53 [(0, .ref v0), (1, .int v1), (2, .int s.1)] [] s.2 := by
    intro v0 v1
    refine pb_wl_ind (I := fun (s : Int32 × pb_HP) => G 53 [(0, .ref v0), (1, .int v1), (2, .int s.1)] [] s.2) (K := fun (e : pb_HP) => G 141 [(0, .ref v0), (1, .int v1)] [] e) (fun s x hf hk => ?_)
    unfold f_66_53s at hf
    refine hG.1 4 53 kb_66_53 _ _ _ rfl ?_
    refine And.intro (fun (hc26 : 6 ≤ s.1) => ?_) (fun (hc26 : ¬ (6 ≤ s.1)) => ?_)
    · rw [if_pos hc26] at hf
      cases hf
      exact hG.2 141 _ [0, 1] _ _ _ rfl hk
    · rw [if_neg hc26] at hf
      obtain ⟨e25, he_e25, hf⟩ := Option.bind_eq_some_iff.mp hf
      refine hl_61 _ _ _ _ _ _ he_e25 ?_
      refine hG.1 8 135 kb_66_135 _ _ _ rfl ?_
      cases hf
      exact hk
  have hl_10 : ∀ (v0 : Nat) (n_ : Nat) (s : Int32 × pb_HP) (e : pb_HP), pb_wl (f_66_10s N v0) n_ s = some e → G 147 [] [] e → G 10 [(0, .ref v0), (1, .int s.1)] [] s.2 := by
    intro v0
    refine pb_wl_ind (I := fun (s : Int32 × pb_HP) => G 10 [(0, .ref v0), (1, .int s.1)] [] s.2) (K := fun (e : pb_HP) => G 147 [] [] e) (fun s x hf hk => ?_)
    unfold f_66_10s at hf
    refine hG.1 1 10 kb_66_10 _ _ _ rfl ?_
    obtain ⟨hg5, hf⟩ := pb_gd hf
    refine And.intro hg5 (?_)
    refine And.intro (fun (hc28 : (pb_I s.2 v0 0) ≤ s.1) => ?_) (fun (hc28 : ¬ ((pb_I s.2 v0 0) ≤ s.1)) => ?_)
    · rw [if_pos hc28] at hf
      cases hf
      exact hG.2 147 _ [] _ _ _ rfl hk
    · rw [if_neg hc28] at hf
      obtain ⟨e13, he_e13, hf⟩ := Option.bind_eq_some_iff.mp hf
      refine hl_20 _ _ _ _ _ he_e13 ?_
      refine hG.1 3 51 kb_66_51 _ _ _ rfl ?_
      obtain ⟨e27, he_e27, hf⟩ := Option.bind_eq_some_iff.mp hf
      refine hl_53 _ _ _ _ _ he_e27 ?_
      refine hG.1 9 141 kb_66_141 _ _ _ rfl ?_
      cases hf
      exact hk
  unfold f_66 at hf
  refine hG.1 0 0 kb_66_0 _ _ _ rfl ?_
  obtain ⟨hg1, hf⟩ := pb_gd hf
  obtain ⟨q2, eq2, hf⟩ := Option.bind_eq_some_iff.mp hf
  refine And.intro hg1 (Exists.intro q2 (And.intro eq2 (?_)))
  obtain ⟨h4, cr3, hf⟩ := Option.bind_eq_some_iff.mp hf
  refine And.intro (Nat.le_of_ble_eq_true rfl) (And.intro (Nat.le_of_ble_eq_true rfl) (And.intro (Nat.le_of_ble_eq_true rfl) (Exists.intro none (Exists.intro _ (And.intro (l_306 cr3) (?_))))))
  obtain ⟨e29, he_e29, hf⟩ := Option.bind_eq_some_iff.mp hf
  refine hl_10 _ _ _ _ he_e29 ?_
  refine hG.1 10 147 kb_66_147 _ _ _ rfl ?_
  cases hf
  exact And.intro rfl rfl
def f_67_5s (N : Nat) (h : pb_HP) (v0 : Nat) (v1 : Int32) (v2 : Int32) (s : Int32 × Int32) : Option ((Int32 × Int32) ⊕ (Int32)) :=
  if pb_is h v0 3 then (if (pb_I h v0 0) ≤ s.2 then (some (.inr s.1)) else ((pb_R h v0 1).bind fun q2 => (if pb_ar h q2 12 s.2 then ((f_62 h v0 (pb_I h q2 s.2.toNatClampNeg) v1).bind fun r4 => ((f_62 h v0 (pb_I h q2 s.2.toNatClampNeg) v2).bind fun r5 => (if r4 ≤ r5 then (some (.inl ((s.1, s.2 + 1)))) else (some (.inl ((s.1 + 1, s.2 + 1))))))) else none))) else none
/-- Likings.preferring -/
def f_67 (N : Nat) (h : pb_HP) (v0 : Nat) (v1 : Int32) (v2 : Int32) : Option (Int32) :=
  (pb_wl (f_67_5s N h v0 v1 v2) N ((0, 0))).bind fun e8 => (some e8)
set_option maxRecDepth 4000 in
theorem l_67 {xs : List Int32} {d : Nat} {N : Nat} {h : pb_HP} {v0 : Nat} {v1 : Int32} {v2 : Int32} {r : Int32} (hf : f_67 N h v0 v1 v2 = some r) : pb_AR xs (d + 3) 67 h [.ref v0, .int v1, .int v2] (some (.int r)) h := by
  intro G hG
  have hc_ : pb_CODE 67 = kc_67 := rfl
  rw [hc_] at hG
  have hl_5 : ∀ (v0 : Nat) (v1 : Int32) (v2 : Int32) (n_ : Nat) (s : Int32 × Int32) (e : Int32), pb_wl (f_67_5s N h v0 v1 v2) n_ s = some e → G 50 [(3, .int e)] [] h → G 5 [(0, .ref v0), (1, .int v1), (2, .int v2), (3, .int s.1), (4, .int s.2)] [] h := by
    intro v0 v1 v2
    refine pb_wl_ind (I := fun (s : Int32 × Int32) => G 5 [(0, .ref v0), (1, .int v1), (2, .int v2), (3, .int s.1), (4, .int s.2)] [] h) (K := fun (e : Int32) => G 50 [(3, .int e)] [] h) (fun s x hf hk => ?_)
    unfold f_67_5s at hf
    refine hG.1 1 5 kb_67_5 _ _ _ rfl ?_
    obtain ⟨hg1, hf⟩ := pb_gd hf
    refine And.intro hg1 (?_)
    refine And.intro (fun (hc7 : (pb_I h v0 0) ≤ s.2) => ?_) (fun (hc7 : ¬ ((pb_I h v0 0) ≤ s.2)) => ?_)
    · rw [if_pos hc7] at hf
      cases hf
      exact hG.2 50 _ [3] _ _ _ rfl hk
    · rw [if_neg hc7] at hf
      obtain ⟨q2, eq2, hf⟩ := Option.bind_eq_some_iff.mp hf
      obtain ⟨hg3, hf⟩ := pb_gd hf
      refine And.intro hg1 (Exists.intro q2 (And.intro eq2 (And.intro hg3 (?_))))
      obtain ⟨r4, cr4, hf⟩ := Option.bind_eq_some_iff.mp hf
      refine And.intro hg1 (And.intro (Nat.le_of_ble_eq_true rfl) (And.intro (Nat.le_of_ble_eq_true rfl) (Exists.intro (some (.int r4)) (Exists.intro _ (And.intro (l_62 cr4) (?_))))))
      refine And.intro hg1 (Exists.intro q2 (And.intro eq2 (And.intro hg3 (?_))))
      obtain ⟨r5, cr5, hf⟩ := Option.bind_eq_some_iff.mp hf
      refine And.intro hg1 (And.intro (Nat.le_of_ble_eq_true rfl) (And.intro (Nat.le_of_ble_eq_true rfl) (Exists.intro (some (.int r5)) (Exists.intro _ (And.intro (l_62 cr5) (?_))))))
      refine And.intro (fun (hc6 : r4 ≤ r5) => ?_) (fun (hc6 : ¬ (r4 ≤ r5)) => ?_)
      · rw [if_pos hc6] at hf
        refine hG.1 2 44 kb_67_44 _ _ _ rfl ?_
        cases hf
        exact hk
      · rw [if_neg hc6] at hf
        refine hG.1 2 44 kb_67_44 _ _ _ rfl ?_
        cases hf
        exact hk
  unfold f_67 at hf
  refine hG.1 0 0 kb_67_0 _ _ _ rfl ?_
  obtain ⟨e8, he_e8, hf⟩ := Option.bind_eq_some_iff.mp hf
  refine hl_5 _ _ _ _ _ _ he_e8 ?_
  refine hG.1 3 50 kb_67_50 _ _ _ rfl ?_
  cases hf
  exact And.intro (fun z_ => absurd z_ (by decide)) (And.intro rfl rfl)
def f_68_4s (N : Nat) (h : pb_HP) (v0 : Nat) (s : Int32 × Int32) : Option ((Int32 × Int32) ⊕ (Int32)) :=
  if pb_is h v0 3 then (if (pb_I h v0 0) ≤ s.2 then (some (.inr s.1)) else ((pb_R h v0 1).bind fun q2 => (if pb_ar h q2 12 s.2 then ((f_62 h v0 (pb_I h q2 s.2.toNatClampNeg) 63).bind fun r4 => (if ¬ s.1 = ((-1)) then (some (.inl ((if r4 < s.1 then r4 else s.1, s.2 + 1)))) else (some (.inl ((r4, s.2 + 1)))))) else none))) else none
/-- Likings.leastSum -/
def f_68 (N : Nat) (h : pb_HP) (v0 : Nat) : Option (Int32) :=
  (pb_wl (f_68_4s N h v0) N (((-1), 0))).bind fun e7 => (some e7)
set_option maxRecDepth 4000 in
theorem l_68 {xs : List Int32} {d : Nat} {N : Nat} {h : pb_HP} {v0 : Nat} {r : Int32} (hf : f_68 N h v0 = some r) : pb_AR xs (d + 3) 68 h [.ref v0] (some (.int r)) h := by
  intro G hG
  have hc_ : pb_CODE 68 = kc_68 := rfl
  rw [hc_] at hG
  have hl_4 : ∀ (v0 : Nat) (n_ : Nat) (s : Int32 × Int32) (e : Int32), pb_wl (f_68_4s N h v0) n_ s = some e → G 46 [(1, .int e)] [] h → G 4 [(0, .ref v0), (1, .int s.1), (2, .int s.2)] [] h := by
    intro v0
    refine pb_wl_ind (I := fun (s : Int32 × Int32) => G 4 [(0, .ref v0), (1, .int s.1), (2, .int s.2)] [] h) (K := fun (e : Int32) => G 46 [(1, .int e)] [] h) (fun s x hf hk => ?_)
    unfold f_68_4s at hf
    refine hG.1 1 4 kb_68_4 _ _ _ rfl ?_
    obtain ⟨hg1, hf⟩ := pb_gd hf
    refine And.intro hg1 (?_)
    refine And.intro (fun (hc6 : (pb_I h v0 0) ≤ s.2) => ?_) (fun (hc6 : ¬ ((pb_I h v0 0) ≤ s.2)) => ?_)
    · rw [if_pos hc6] at hf
      cases hf
      exact hG.2 46 _ [1] _ _ _ rfl hk
    · rw [if_neg hc6] at hf
      obtain ⟨q2, eq2, hf⟩ := Option.bind_eq_some_iff.mp hf
      obtain ⟨hg3, hf⟩ := pb_gd hf
      refine And.intro hg1 (Exists.intro q2 (And.intro eq2 (And.intro hg3 (?_))))
      obtain ⟨r4, cr4, hf⟩ := Option.bind_eq_some_iff.mp hf
      refine And.intro hg1 (And.intro (Nat.le_of_ble_eq_true rfl) (And.intro (Nat.le_of_ble_eq_true rfl) (Exists.intro (some (.int r4)) (Exists.intro _ (And.intro (l_62 cr4) (?_))))))
      refine And.intro (fun (hc5 : ¬ s.1 = ((-1))) => ?_) (fun (hc5 : ¬ (¬ s.1 = ((-1)))) => ?_)
      · rw [if_pos hc5] at hf
        refine hG.1 2 34 kb_68_34 _ _ _ rfl ?_
        refine And.intro (Nat.le_of_ble_eq_true rfl) (?_)
        refine hG.1 3 39 kb_68_39 _ _ _ rfl ?_
        cases hf
        exact hG.2 4 _ [0, 1, 2] _ _ _ rfl hk
      · rw [if_neg hc5] at hf
        refine hG.1 3 39 kb_68_39 _ _ _ rfl ?_
        cases hf
        exact hG.2 4 _ [0, 1, 2] _ _ _ rfl hk
  unfold f_68 at hf
  refine hG.1 0 0 kb_68_0 _ _ _ rfl ?_
  obtain ⟨e7, he_e7, hf⟩ := Option.bind_eq_some_iff.mp hf
  refine hl_4 _ _ _ _ he_e7 ?_
  refine hG.1 4 46 kb_68_46 _ _ _ rfl ?_
  cases hf
  exact And.intro (fun z_ => absurd z_ (by decide)) (And.intro rfl rfl)
def f_69_4s (N : Nat) (h : pb_HP) (v0 : Nat) (s : Int32 × Int32) : Option ((Int32 × Int32) ⊕ (Int32)) :=
  if pb_is h v0 3 then (if (pb_I h v0 0) ≤ s.2 then (some (.inr s.1)) else ((pb_R h v0 1).bind fun q2 => (if pb_ar h q2 12 s.2 then ((f_62 h v0 (pb_I h q2 s.2.toNatClampNeg) 63).bind fun r4 => (some (.inl ((if s.1 < r4 then r4 else s.1, s.2 + 1))))) else none))) else none
/-- Likings.greatestSum -/
def f_69 (N : Nat) (h : pb_HP) (v0 : Nat) : Option (Int32) :=
  (pb_wl (f_69_4s N h v0) N (((-1), 0))).bind fun e6 => (some e6)
set_option maxRecDepth 4000 in
theorem l_69 {xs : List Int32} {d : Nat} {N : Nat} {h : pb_HP} {v0 : Nat} {r : Int32} (hf : f_69 N h v0 = some r) : pb_AR xs (d + 3) 69 h [.ref v0] (some (.int r)) h := by
  intro G hG
  have hc_ : pb_CODE 69 = kc_69 := rfl
  rw [hc_] at hG
  have hl_4 : ∀ (v0 : Nat) (n_ : Nat) (s : Int32 × Int32) (e : Int32), pb_wl (f_69_4s N h v0) n_ s = some e → G 35 [(1, .int e)] [] h → G 4 [(0, .ref v0), (1, .int s.1), (2, .int s.2)] [] h := by
    intro v0
    refine pb_wl_ind (I := fun (s : Int32 × Int32) => G 4 [(0, .ref v0), (1, .int s.1), (2, .int s.2)] [] h) (K := fun (e : Int32) => G 35 [(1, .int e)] [] h) (fun s x hf hk => ?_)
    unfold f_69_4s at hf
    refine hG.1 1 4 kb_69_4 _ _ _ rfl ?_
    obtain ⟨hg1, hf⟩ := pb_gd hf
    refine And.intro hg1 (?_)
    refine And.intro (fun (hc5 : (pb_I h v0 0) ≤ s.2) => ?_) (fun (hc5 : ¬ ((pb_I h v0 0) ≤ s.2)) => ?_)
    · rw [if_pos hc5] at hf
      cases hf
      exact hG.2 35 _ [1] _ _ _ rfl hk
    · rw [if_neg hc5] at hf
      obtain ⟨q2, eq2, hf⟩ := Option.bind_eq_some_iff.mp hf
      obtain ⟨hg3, hf⟩ := pb_gd hf
      refine And.intro hg1 (Exists.intro q2 (And.intro eq2 (And.intro hg3 (?_))))
      obtain ⟨r4, cr4, hf⟩ := Option.bind_eq_some_iff.mp hf
      refine And.intro hg1 (And.intro (Nat.le_of_ble_eq_true rfl) (And.intro (Nat.le_of_ble_eq_true rfl) (Exists.intro (some (.int r4)) (Exists.intro _ (And.intro (l_62 cr4) (?_))))))
      refine And.intro (Nat.le_of_ble_eq_true rfl) (?_)
      cases hf
      exact hk
  unfold f_69 at hf
  refine hG.1 0 0 kb_69_0 _ _ _ rfl ?_
  obtain ⟨e6, he_e6, hf⟩ := Option.bind_eq_some_iff.mp hf
  refine hl_4 _ _ _ _ he_e6 ?_
  refine hG.1 2 35 kb_69_35 _ _ _ rfl ?_
  cases hf
  exact And.intro (fun z_ => absurd z_ (by decide)) (And.intro rfl rfl)
def f_76_15s (N : Nat) (v0 : Nat) (v1 : Nat) (s : Int32 × pb_HP) : Option ((Int32 × pb_HP) ⊕ (pb_HP)) :=
  if 6 ≤ s.1 then (some (.inr s.2)) else (if pb_is s.2 v0 5 then ((pb_R s.2 v0 2).bind fun q4 => (if pb_ar s.2 q4 12 s.1 then (if pb_is s.2 v1 0 then ((f_7 (pb_pI s.2 q4 s.1.toNatClampNeg 6) v1 s.1).bind fun r7 => (if r7 = 0 then (some (.inl ((s.1 + 1, pb_pI s.2 q4 s.1.toNatClampNeg 6)))) else ((f_11 N (pb_pI (pb_pI s.2 q4 s.1.toNatClampNeg 6) v0 0 ((pb_I (pb_pI s.2 q4 s.1.toNatClampNeg 6) v0 0) ||| ((1 : Int32) <<< (s.1 &&& 31)))) v1 s.1 63).bind fun r8 => (pb_hb (pb_pI (pb_pI (pb_pI s.2 q4 s.1.toNatClampNeg 6) v0 0 ((pb_I (pb_pI s.2 q4 s.1.toNatClampNeg 6) v0 0) ||| ((1 : Int32) <<< (s.1 &&& 31)))) q4 s.1.toNatClampNeg r8) fun h9 => (some (.inl ((s.1 + 1, h9)))))))) else none) else none)) else none)
/-- Poll.ask -/
def f_76 (N : Nat) (h : pb_HP) (v0 : Nat) (v1 : Nat) : Option (pb_HP) :=
  if pb_is h v0 5 then (if pb_is h v1 0 then ((pb_wl (f_76_15s N v0 v1) N ((0, pb_pI (pb_pI h v0 0 0) v0 1 (pb_I (pb_pI h v0 0 0) v1 0)))).bind fun e16 => (some e16)) else none) else none
set_option maxRecDepth 4000 in
theorem l_76 {xs : List Int32} {d : Nat} {N : Nat} {h : pb_HP} {v0 : Nat} {v1 : Nat} {hE : pb_HP} (hf : f_76 N h v0 v1 = some hE) : pb_AR xs (d + 3) 76 h [.ref v0, .ref v1] none hE := by
  intro G hG
  have hc_ : pb_CODE 76 = kc_76 := rfl
  rw [hc_] at hG
  have hl_15 : ∀ (v0 : Nat) (v1 : Nat) (n_ : Nat) (s : Int32 × pb_HP) (e : pb_HP), pb_wl (f_76_15s N v0 v1) n_ s = some e → G 68 [] [] e → G 15 [(0, .ref v0), (1, .ref v1), (2, .int s.1)] [] s.2 := by
    intro v0 v1
    refine pb_wl_ind (I := fun (s : Int32 × pb_HP) => G 15 [(0, .ref v0), (1, .ref v1), (2, .int s.1)] [] s.2) (K := fun (e : pb_HP) => G 68 [] [] e) (fun s x hf hk => ?_)
    unfold f_76_15s at hf
    refine hG.1 1 15 kb_76_15 _ _ _ rfl ?_
    refine And.intro (fun (hc15 : 6 ≤ s.1) => ?_) (fun (hc15 : ¬ (6 ≤ s.1)) => ?_)
    · rw [if_pos hc15] at hf
      cases hf
      exact hG.2 68 _ [] _ _ _ rfl hk
    · rw [if_neg hc15] at hf
      obtain ⟨hg3, hf⟩ := pb_gd hf
      obtain ⟨q4, eq4, hf⟩ := Option.bind_eq_some_iff.mp hf
      obtain ⟨hg5, hf⟩ := pb_gd hf
      obtain ⟨hg6, hf⟩ := pb_gd hf
      refine And.intro hg3 (Exists.intro q4 (And.intro eq4 (And.intro hg5 (?_))))
      obtain ⟨r7, cr7, hf⟩ := Option.bind_eq_some_iff.mp hf
      refine And.intro hg6 (And.intro (Nat.le_of_ble_eq_true rfl) (And.intro (Nat.le_of_ble_eq_true rfl) (Exists.intro (some (.int r7)) (Exists.intro _ (And.intro (l_7 cr7) (?_))))))
      refine And.intro (fun (hc14 : r7 = 0) => ?_) (fun (hc14 : ¬ (r7 = 0)) => ?_)
      · rw [if_pos hc14] at hf
        refine hG.1 2 62 kb_76_62 _ _ _ rfl ?_
        cases hf
        exact hk
      · rw [if_neg hc14] at hf
        refine And.intro hg3 (And.intro hg3 (And.intro hg3 (Exists.intro q4 (And.intro eq4 (?_)))))
        obtain ⟨r8, cr8, hf⟩ := Option.bind_eq_some_iff.mp hf
        refine And.intro hg6 (And.intro (Nat.le_of_ble_eq_true rfl) (And.intro (Nat.le_of_ble_eq_true rfl) (Exists.intro (some (.int r8)) (Exists.intro _ (And.intro (l_11 cr8) (?_))))))
        refine And.intro hg5 (?_)
        refine pb_hset (E := pb_pI (pb_pI (pb_pI s.2 q4 s.1.toNatClampNeg 6) v0 0 ((pb_I (pb_pI s.2 q4 s.1.toNatClampNeg 6) v0 0) ||| ((1 : Int32) <<< (s.1 &&& 31)))) q4 s.1.toNatClampNeg r8) rfl (fun h9 eh9 => ?_)
        have hf := pb_hbd hf eh9
        have hg10 : pb_is h9 v0 5 := pb_isx eh9 hg3
        have hg11 : pb_ar h9 q4 12 s.1 := pb_arx eh9 hg5
        have hg12 : pb_is h9 v1 0 := pb_isx eh9 hg6
        have eq13 : pb_R h9 v0 2 = some q4 := pb_Rx eh9 eq4
        refine hG.1 2 62 kb_76_62 _ _ _ rfl ?_
        cases hf
        exact hk
  unfold f_76 at hf
  refine hG.1 0 0 kb_76_0 _ _ _ rfl ?_
  obtain ⟨hg1, hf⟩ := pb_gd hf
  obtain ⟨hg2, hf⟩ := pb_gd hf
  refine And.intro hg1 (And.intro hg2 (And.intro hg1 (?_)))
  obtain ⟨e16, he_e16, hf⟩ := Option.bind_eq_some_iff.mp hf
  refine hl_15 _ _ _ _ _ he_e16 ?_
  refine hG.1 3 68 kb_76_68 _ _ _ rfl ?_
  cases hf
  exact And.intro rfl rfl
/-- Reader.begin -/
def f_86 (N : Nat) (h : pb_HP) (v0 : Nat) (v1 : Nat) (v2 : Int32) : Option (pb_HP) :=
  if pb_is h v0 6 then (if pb_is (pb_pR h v0 5 (some v1)) v1 13 then (if pb_is (pb_pR h v0 5 (some v1)) v0 6 then (pb_hb (pb_pI (pb_pI (pb_pI (pb_pI (pb_pI (pb_pR h v0 5 (some v1)) v0 6 (if Int32.ofNat (pb_SH v1).2 < v2 then Int32.ofNat (pb_SH v1).2 else v2)) v0 9 0) v0 3 0) v0 4 ((-1))) v0 10 0) fun h4 => ((pb_R (pb_pR h v0 5 (some v1)) v0 0).bind fun q7 => (if pb_is (pb_pR h v0 5 (some v1)) q7 0 then ((f_1 N (pb_pI h4 v0 11 0) q7).bind fun h12 => (if pb_is h12 v0 6 then ((pb_R h12 v0 1).bind fun q14 => (if pb_is h12 q14 4 then ((pb_R h12 v0 2).bind fun q16 => (if pb_is h12 q16 4 then (some (pb_pI (pb_pI h12 q14 0 0) q16 0 0)) else none)) else none)) else none)) else none))) else none) else none) else none
set_option maxRecDepth 4000 in
theorem l_86 {xs : List Int32} {d : Nat} {N : Nat} {h : pb_HP} {v0 : Nat} {v1 : Nat} {v2 : Int32} {hE : pb_HP} (hf : f_86 N h v0 v1 v2 = some hE) : pb_AR xs (d + 3) 86 h [.ref v0, .ref v1, .int v2] none hE := by
  intro G hG
  have hc_ : pb_CODE 86 = kc_86 := rfl
  rw [hc_] at hG
  unfold f_86 at hf
  refine hG.1 0 0 kb_86_0 _ _ _ rfl ?_
  obtain ⟨hg1, hf⟩ := pb_gd hf
  obtain ⟨hg2, hf⟩ := pb_gd hf
  obtain ⟨hg3, hf⟩ := pb_gd hf
  refine And.intro hg1 (And.intro (And.intro (by decide) (by decide)) (And.intro hg2 (And.intro (Nat.le_of_ble_eq_true rfl) (And.intro hg3 (And.intro hg3 (And.intro hg3 (And.intro hg3 (And.intro hg3 (?_)))))))))
  refine pb_hset (E := pb_pI (pb_pI (pb_pI (pb_pI (pb_pI (pb_pR h v0 5 (some v1)) v0 6 (if Int32.ofNat (pb_SH v1).2 < v2 then Int32.ofNat (pb_SH v1).2 else v2)) v0 9 0) v0 3 0) v0 4 ((-1))) v0 10 0) rfl (fun h4 eh4 => ?_)
  have hf := pb_hbd hf eh4
  have hg5 : pb_is h4 v1 13 := pb_isx eh4 hg2
  have hg6 : pb_is h4 v0 6 := pb_isx eh4 hg3
  obtain ⟨q7, eq7, hf⟩ := Option.bind_eq_some_iff.mp hf
  have eq8 : pb_R h4 v0 0 = some q7 := pb_Rx eh4 eq7
  obtain ⟨hg9, hf⟩ := pb_gd hf
  have hg10 : pb_is h4 q7 0 := pb_isx eh4 hg9
  refine And.intro hg6 (And.intro hg6 (Exists.intro q7 (And.intro eq8 (?_))))
  obtain ⟨h12, cr11, hf⟩ := Option.bind_eq_some_iff.mp hf
  refine And.intro hg10 (And.intro (Nat.le_of_ble_eq_true rfl) (And.intro (Nat.le_of_ble_eq_true rfl) (Exists.intro none (Exists.intro _ (And.intro (l_1 cr11) (?_))))))
  obtain ⟨hg13, hf⟩ := pb_gd hf
  obtain ⟨q14, eq14, hf⟩ := Option.bind_eq_some_iff.mp hf
  obtain ⟨hg15, hf⟩ := pb_gd hf
  obtain ⟨q16, eq16, hf⟩ := Option.bind_eq_some_iff.mp hf
  obtain ⟨hg17, hf⟩ := pb_gd hf
  refine And.intro hg13 (Exists.intro q14 (And.intro eq14 (And.intro hg15 (And.intro hg13 (Exists.intro q16 (And.intro eq16 (And.intro hg17 (?_))))))))
  cases hf
  exact And.intro rfl rfl
/-- Reader.store -/
def f_97 (h : pb_HP) (v0 : Nat) (v1 : Int32) : Option (pb_HP) :=
  if pb_in 2 pb_S4.length then (if v1 < (pb_S4.getD (2 : Int32).toNatClampNeg 0) then (if pb_in 1 pb_S4.length then (if v1 < (pb_S4.getD (1 : Int32).toNatClampNeg 0) then (if ¬ v1 = 0 then (if ¬ v1 = 1 then (if ¬ v1 = 2 then (if pb_is h v0 6 then ((pb_R h v0 12).bind fun q4 => (if pb_ar h q4 12 0 then (if ¬ v1 = 3 then ((pb_R h v0 0).bind fun q6 => (if pb_is h q6 0 then ((pb_R h q6 7).bind fun q8 => (if pb_ar h q4 12 1 then (if pb_ar h q4 12 2 then (if pb_ar h q8 12 (((pb_I (pb_pI h v0 11 (if pb_I h v0 11 < (pb_I h q4 (0 : Int32).toNatClampNeg) + 1 then (pb_I h q4 (0 : Int32).toNatClampNeg) + 1 else pb_I h v0 11)) q4 (0 : Int32).toNatClampNeg) * 6) + (pb_I (pb_pI h v0 11 (if pb_I h v0 11 < (pb_I h q4 (0 : Int32).toNatClampNeg) + 1 then (pb_I h q4 (0 : Int32).toNatClampNeg) + 1 else pb_I h v0 11)) q4 (1 : Int32).toNatClampNeg)) then (pb_hb (pb_pI (pb_pI h v0 11 (if pb_I h v0 11 < (pb_I h q4 (0 : Int32).toNatClampNeg) + 1 then (pb_I h q4 (0 : Int32).toNatClampNeg) + 1 else pb_I h v0 11)) q8 (((pb_I (pb_pI h v0 11 (if pb_I h v0 11 < (pb_I h q4 (0 : Int32).toNatClampNeg) + 1 then (pb_I h q4 (0 : Int32).toNatClampNeg) + 1 else pb_I h v0 11)) q4 (0 : Int32).toNatClampNeg) * 6) + (pb_I (pb_pI h v0 11 (if pb_I h v0 11 < (pb_I h q4 (0 : Int32).toNatClampNeg) + 1 then (pb_I h q4 (0 : Int32).toNatClampNeg) + 1 else pb_I h v0 11)) q4 (1 : Int32).toNatClampNeg)).toNatClampNeg (pb_I (pb_pI h v0 11 (if pb_I h v0 11 < (pb_I h q4 (0 : Int32).toNatClampNeg) + 1 then (pb_I h q4 (0 : Int32).toNatClampNeg) + 1 else pb_I h v0 11)) q4 (2 : Int32).toNatClampNeg)) fun h12 => (some h12)) else none) else none) else none)) else none)) else ((pb_R h v0 0).bind fun q22 => (if pb_is h q22 0 then ((pb_R h q22 6).bind fun q24 => (if pb_ar h q24 12 (pb_I (pb_pI h v0 11 (if pb_I h v0 11 < (pb_I h q4 (0 : Int32).toNatClampNeg) + 1 then (pb_I h q4 (0 : Int32).toNatClampNeg) + 1 else pb_I h v0 11)) q4 (0 : Int32).toNatClampNeg) then (if pb_ar h q4 12 1 then (pb_hb (pb_pI (pb_pI h v0 11 (if pb_I h v0 11 < (pb_I h q4 (0 : Int32).toNatClampNeg) + 1 then (pb_I h q4 (0 : Int32).toNatClampNeg) + 1 else pb_I h v0 11)) q24 (pb_I (pb_pI h v0 11 (if pb_I h v0 11 < (pb_I h q4 (0 : Int32).toNatClampNeg) + 1 then (pb_I h q4 (0 : Int32).toNatClampNeg) + 1 else pb_I h v0 11)) q4 (0 : Int32).toNatClampNeg).toNatClampNeg ((pb_I (pb_pI h v0 11 (if pb_I h v0 11 < (pb_I h q4 (0 : Int32).toNatClampNeg) + 1 then (pb_I h q4 (0 : Int32).toNatClampNeg) + 1 else pb_I h v0 11)) q24 (pb_I (pb_pI h v0 11 (if pb_I h v0 11 < (pb_I h q4 (0 : Int32).toNatClampNeg) + 1 then (pb_I h q4 (0 : Int32).toNatClampNeg) + 1 else pb_I h v0 11)) q4 (0 : Int32).toNatClampNeg).toNatClampNeg) ||| ((1 : Int32) <<< ((pb_I (pb_pI h v0 11 (if pb_I h v0 11 < (pb_I h q4 (0 : Int32).toNatClampNeg) + 1 then (pb_I h q4 (0 : Int32).toNatClampNeg) + 1 else pb_I h v0 11)) q4 (1 : Int32).toNatClampNeg) &&& 31)))) fun h27 => (some h27)) else none) else none)) else none))) else none)) else none) else (if pb_is h v0 6 then ((pb_R h v0 0).bind fun q38 => (if pb_is h q38 0 then ((pb_R h q38 3).bind fun q40 => ((pb_R h v0 12).bind fun q41 => (if pb_ar h q41 12 0 then (if pb_ar h q40 12 (pb_I h q41 (0 : Int32).toNatClampNeg) then (if pb_ar h q41 12 1 then (pb_hb (pb_pI h q40 (pb_I h q41 (0 : Int32).toNatClampNeg).toNatClampNeg ((pb_I h q40 (pb_I h q41 (0 : Int32).toNatClampNeg).toNatClampNeg) ||| ((1 : Int32) <<< ((pb_I h q41 (1 : Int32).toNatClampNeg) &&& 31)))) fun h45 => (some (pb_pI h45 v0 10 (if pb_I h45 v0 10 < (pb_I h45 q41 (0 : Int32).toNatClampNeg) + 1 then (pb_I h45 q41 (0 : Int32).toNatClampNeg) + 1 else pb_I h45 v0 10)))) else none) else none) else none))) else none)) else none)) else (if pb_is h v0 6 then ((pb_R h v0 0).bind fun q56 => (if pb_is h q56 0 then ((pb_R h q56 4).bind fun q58 => ((pb_R h v0 12).bind fun q59 => (if pb_ar h q59 12 0 then (if pb_ar h q58 12 (pb_I h q56 1) then ((pb_R h q56 5).bind fun q62 => (if pb_ar h q59 12 1 then (if pb_ar h q62 12 (pb_I (pb_pI h q58 (pb_I h q56 1).toNatClampNeg (pb_I h q59 (0 : Int32).toNatClampNeg)) q56 1) then (pb_hb (pb_pI (pb_pI h q58 (pb_I h q56 1).toNatClampNeg (pb_I h q59 (0 : Int32).toNatClampNeg)) q62 (pb_I (pb_pI h q58 (pb_I h q56 1).toNatClampNeg (pb_I h q59 (0 : Int32).toNatClampNeg)) q56 1).toNatClampNeg (pb_I (pb_pI h q58 (pb_I h q56 1).toNatClampNeg (pb_I h q59 (0 : Int32).toNatClampNeg)) q59 (1 : Int32).toNatClampNeg)) fun h65 => (some (pb_pI h65 q56 1 ((pb_I h65 q56 1) + 1)))) else none) else none)) else none) else none))) else none)) else none)) else (if pb_is h v0 6 then ((pb_R h v0 0).bind fun q78 => (if pb_is h q78 0 then ((pb_R h q78 2).bind fun q80 => ((pb_R h v0 12).bind fun q81 => (if pb_ar h q81 12 0 then (if pb_ar h q80 12 (pb_I h q78 0) then (pb_hb (pb_pI (pb_pI h q80 (pb_I h q78 0).toNatClampNeg (pb_I h q81 (0 : Int32).toNatClampNeg)) q78 0 ((pb_I (pb_pI h q80 (pb_I h q78 0).toNatClampNeg (pb_I h q81 (0 : Int32).toNatClampNeg)) q78 0) + 1)) fun h84 => (some h84)) else none) else none))) else none)) else none)) else (if pb_is h v0 6 then ((pb_R h v0 1).bind fun q94 => ((pb_R h v0 12).bind fun q95 => (if pb_ar h q95 12 0 then (if pb_ar h q95 12 1 then (if pb_ar h q95 12 2 then (if pb_is h q94 4 then ((f_72 h q94 (v1 - (pb_S4.getD (1 : Int32).toNatClampNeg 0)) (pb_I h q95 (0 : Int32).toNatClampNeg) (pb_I h q95 (1 : Int32).toNatClampNeg) (pb_I h q95 (2 : Int32).toNatClampNeg)).bind fun h101 => (some h101)) else none) else none) else none) else none))) else none)) else none) else (if pb_is h v0 6 then ((pb_R h v0 2).bind fun q104 => ((pb_R h v0 12).bind fun q105 => (if pb_ar h q105 12 0 then (if pb_ar h q105 12 1 then (if pb_is h q104 4 then ((f_72 h q104 (v1 - (pb_S4.getD (2 : Int32).toNatClampNeg 0)) (pb_I h q105 (0 : Int32).toNatClampNeg) (pb_I h q105 (1 : Int32).toNatClampNeg) ((-1))).bind fun h110 => (some h110)) else none) else none) else none))) else none)) else none
set_option maxRecDepth 4000 in
theorem l_97 {xs : List Int32} {d : Nat} {h : pb_HP} {v0 : Nat} {v1 : Int32} {hE : pb_HP} (hf : f_97 h v0 v1 = some hE) : pb_AR xs (d + 3) 97 h [.ref v0, .int v1] none hE := by
  intro G hG
  have hc_ : pb_CODE 97 = kc_97 := rfl
  rw [hc_] at hG
  unfold f_97 at hf
  refine hG.1 0 0 kb_97_0 _ _ _ rfl ?_
  obtain ⟨hg1, hf⟩ := pb_gd hf
  refine And.intro hg1 (?_)
  refine And.intro (fun (hc111 : v1 < (pb_S4.getD (2 : Int32).toNatClampNeg 0)) => ?_) (fun (hc111 : ¬ (v1 < (pb_S4.getD (2 : Int32).toNatClampNeg 0))) => ?_)
  · rw [if_pos hc111] at hf
    refine hG.1 1 39 kb_97_39 _ _ _ rfl ?_
    obtain ⟨hg2, hf⟩ := pb_gd hf
    refine And.intro hg2 (?_)
    refine And.intro (fun (hc102 : v1 < (pb_S4.getD (1 : Int32).toNatClampNeg 0)) => ?_) (fun (hc102 : ¬ (v1 < (pb_S4.getD (1 : Int32).toNatClampNeg 0))) => ?_)
    · rw [if_pos hc102] at hf
      refine hG.1 2 83 kb_97_83 _ _ _ rfl ?_
      refine And.intro (fun (hc92 : ¬ v1 = 0) => ?_) (fun (hc92 : ¬ (¬ v1 = 0)) => ?_)
      · rw [if_pos hc92] at hf
        refine hG.1 3 124 kb_97_124 _ _ _ rfl ?_
        refine And.intro (fun (hc76 : ¬ v1 = 1) => ?_) (fun (hc76 : ¬ (¬ v1 = 1)) => ?_)
        · rw [if_pos hc76] at hf
          refine hG.1 4 187 kb_97_187 _ _ _ rfl ?_
          refine And.intro (fun (hc54 : ¬ v1 = 2) => ?_) (fun (hc54 : ¬ (¬ v1 = 2)) => ?_)
          · rw [if_pos hc54] at hf
            refine hG.1 5 239 kb_97_239 _ _ _ rfl ?_
            obtain ⟨hg3, hf⟩ := pb_gd hf
            obtain ⟨q4, eq4, hf⟩ := Option.bind_eq_some_iff.mp hf
            obtain ⟨hg5, hf⟩ := pb_gd hf
            refine And.intro hg3 (And.intro hg3 (Exists.intro q4 (And.intro eq4 (And.intro hg5 (And.intro (Nat.le_of_ble_eq_true rfl) (And.intro hg3 (?_)))))))
            refine And.intro (fun (hc36 : ¬ v1 = 3) => ?_) (fun (hc36 : ¬ (¬ v1 = 3)) => ?_)
            · rw [if_pos hc36] at hf
              refine hG.1 6 291 kb_97_291 _ _ _ rfl ?_
              obtain ⟨q6, eq6, hf⟩ := Option.bind_eq_some_iff.mp hf
              obtain ⟨hg7, hf⟩ := pb_gd hf
              obtain ⟨q8, eq8, hf⟩ := Option.bind_eq_some_iff.mp hf
              obtain ⟨hg9, hf⟩ := pb_gd hf
              obtain ⟨hg10, hf⟩ := pb_gd hf
              obtain ⟨hg11, hf⟩ := pb_gd hf
              refine And.intro hg3 (Exists.intro q6 (And.intro eq6 (And.intro hg7 (Exists.intro q8 (And.intro eq8 (And.intro hg3 (Exists.intro q4 (And.intro eq4 (And.intro hg5 (And.intro hg3 (Exists.intro q4 (And.intro eq4 (And.intro hg9 (And.intro hg3 (Exists.intro q4 (And.intro eq4 (And.intro hg10 (And.intro hg11 (?_)))))))))))))))))))
              refine pb_hset (E := pb_pI (pb_pI h v0 11 (if pb_I h v0 11 < (pb_I h q4 (0 : Int32).toNatClampNeg) + 1 then (pb_I h q4 (0 : Int32).toNatClampNeg) + 1 else pb_I h v0 11)) q8 (((pb_I (pb_pI h v0 11 (if pb_I h v0 11 < (pb_I h q4 (0 : Int32).toNatClampNeg) + 1 then (pb_I h q4 (0 : Int32).toNatClampNeg) + 1 else pb_I h v0 11)) q4 (0 : Int32).toNatClampNeg) * 6) + (pb_I (pb_pI h v0 11 (if pb_I h v0 11 < (pb_I h q4 (0 : Int32).toNatClampNeg) + 1 then (pb_I h q4 (0 : Int32).toNatClampNeg) + 1 else pb_I h v0 11)) q4 (1 : Int32).toNatClampNeg)).toNatClampNeg (pb_I (pb_pI h v0 11 (if pb_I h v0 11 < (pb_I h q4 (0 : Int32).toNatClampNeg) + 1 then (pb_I h q4 (0 : Int32).toNatClampNeg) + 1 else pb_I h v0 11)) q4 (2 : Int32).toNatClampNeg)) rfl (fun h12 eh12 => ?_)
              have hf := pb_hbd hf eh12
              have hg13 : pb_is h12 v0 6 := pb_isx eh12 hg3
              have hg14 : pb_ar h12 q4 12 0 := pb_arx eh12 hg5
              have hg15 : pb_is h12 q6 0 := pb_isx eh12 hg7
              have hg16 : pb_ar h12 q4 12 1 := pb_arx eh12 hg9
              have hg17 : pb_ar h12 q4 12 2 := pb_arx eh12 hg10
              have hg18 : pb_ar h12 q8 12 (((pb_I (pb_pI h v0 11 (if pb_I h v0 11 < (pb_I h q4 (0 : Int32).toNatClampNeg) + 1 then (pb_I h q4 (0 : Int32).toNatClampNeg) + 1 else pb_I h v0 11)) q4 (0 : Int32).toNatClampNeg) * 6) + (pb_I (pb_pI h v0 11 (if pb_I h v0 11 < (pb_I h q4 (0 : Int32).toNatClampNeg) + 1 then (pb_I h q4 (0 : Int32).toNatClampNeg) + 1 else pb_I h v0 11)) q4 (1 : Int32).toNatClampNeg)) := pb_arx eh12 hg11
              have eq19 : pb_R h12 v0 12 = some q4 := pb_Rx eh12 eq4
              have eq20 : pb_R h12 v0 0 = some q6 := pb_Rx eh12 eq6
              have eq21 : pb_R h12 q6 7 = some q8 := pb_Rx eh12 eq8
              refine hG.1 7 321 kb_97_321 _ _ _ rfl ?_
              cases hf
              exact And.intro rfl rfl
            · rw [if_neg hc36] at hf
              obtain ⟨q22, eq22, hf⟩ := Option.bind_eq_some_iff.mp hf
              obtain ⟨hg23, hf⟩ := pb_gd hf
              obtain ⟨q24, eq24, hf⟩ := Option.bind_eq_some_iff.mp hf
              obtain ⟨hg25, hf⟩ := pb_gd hf
              obtain ⟨hg26, hf⟩ := pb_gd hf
              refine And.intro hg3 (Exists.intro q22 (And.intro eq22 (And.intro hg23 (Exists.intro q24 (And.intro eq24 (And.intro hg3 (Exists.intro q4 (And.intro eq4 (And.intro hg5 (And.intro hg25 (And.intro hg3 (Exists.intro q4 (And.intro eq4 (And.intro hg26 (And.intro hg25 (?_))))))))))))))))
              refine pb_hset (E := pb_pI (pb_pI h v0 11 (if pb_I h v0 11 < (pb_I h q4 (0 : Int32).toNatClampNeg) + 1 then (pb_I h q4 (0 : Int32).toNatClampNeg) + 1 else pb_I h v0 11)) q24 (pb_I (pb_pI h v0 11 (if pb_I h v0 11 < (pb_I h q4 (0 : Int32).toNatClampNeg) + 1 then (pb_I h q4 (0 : Int32).toNatClampNeg) + 1 else pb_I h v0 11)) q4 (0 : Int32).toNatClampNeg).toNatClampNeg ((pb_I (pb_pI h v0 11 (if pb_I h v0 11 < (pb_I h q4 (0 : Int32).toNatClampNeg) + 1 then (pb_I h q4 (0 : Int32).toNatClampNeg) + 1 else pb_I h v0 11)) q24 (pb_I (pb_pI h v0 11 (if pb_I h v0 11 < (pb_I h q4 (0 : Int32).toNatClampNeg) + 1 then (pb_I h q4 (0 : Int32).toNatClampNeg) + 1 else pb_I h v0 11)) q4 (0 : Int32).toNatClampNeg).toNatClampNeg) ||| ((1 : Int32) <<< ((pb_I (pb_pI h v0 11 (if pb_I h v0 11 < (pb_I h q4 (0 : Int32).toNatClampNeg) + 1 then (pb_I h q4 (0 : Int32).toNatClampNeg) + 1 else pb_I h v0 11)) q4 (1 : Int32).toNatClampNeg) &&& 31)))) rfl (fun h27 eh27 => ?_)
              have hf := pb_hbd hf eh27
              have hg28 : pb_is h27 v0 6 := pb_isx eh27 hg3
              have hg29 : pb_ar h27 q4 12 0 := pb_arx eh27 hg5
              have hg30 : pb_is h27 q22 0 := pb_isx eh27 hg23
              have hg31 : pb_ar h27 q24 12 (pb_I (pb_pI h v0 11 (if pb_I h v0 11 < (pb_I h q4 (0 : Int32).toNatClampNeg) + 1 then (pb_I h q4 (0 : Int32).toNatClampNeg) + 1 else pb_I h v0 11)) q4 (0 : Int32).toNatClampNeg) := pb_arx eh27 hg25
              have hg32 : pb_ar h27 q4 12 1 := pb_arx eh27 hg26
              have eq33 : pb_R h27 v0 12 = some q4 := pb_Rx eh27 eq4
              have eq34 : pb_R h27 v0 0 = some q22 := pb_Rx eh27 eq22
              have eq35 : pb_R h27 q22 6 = some q24 := pb_Rx eh27 eq24
              refine hG.1 7 321 kb_97_321 _ _ _ rfl ?_
              cases hf
              exact And.intro rfl rfl
          · rw [if_neg hc54] at hf
            obtain ⟨hg37, hf⟩ := pb_gd hf
            obtain ⟨q38, eq38, hf⟩ := Option.bind_eq_some_iff.mp hf
            obtain ⟨hg39, hf⟩ := pb_gd hf
            obtain ⟨q40, eq40, hf⟩ := Option.bind_eq_some_iff.mp hf
            obtain ⟨q41, eq41, hf⟩ := Option.bind_eq_some_iff.mp hf
            obtain ⟨hg42, hf⟩ := pb_gd hf
            obtain ⟨hg43, hf⟩ := pb_gd hf
            obtain ⟨hg44, hf⟩ := pb_gd hf
            refine And.intro hg37 (Exists.intro q38 (And.intro eq38 (And.intro hg39 (Exists.intro q40 (And.intro eq40 (And.intro hg37 (Exists.intro q41 (And.intro eq41 (And.intro hg42 (And.intro hg43 (And.intro hg37 (Exists.intro q41 (And.intro eq41 (And.intro hg44 (And.intro hg43 (?_))))))))))))))))
            refine pb_hset (E := pb_pI h q40 (pb_I h q41 (0 : Int32).toNatClampNeg).toNatClampNeg ((pb_I h q40 (pb_I h q41 (0 : Int32).toNatClampNeg).toNatClampNeg) ||| ((1 : Int32) <<< ((pb_I h q41 (1 : Int32).toNatClampNeg) &&& 31)))) rfl (fun h45 eh45 => ?_)
            have hf := pb_hbd hf eh45
            have hg46 : pb_is h45 v0 6 := pb_isx eh45 hg37
            have hg47 : pb_is h45 q38 0 := pb_isx eh45 hg39
            have hg48 : pb_ar h45 q41 12 0 := pb_arx eh45 hg42
            have hg49 : pb_ar h45 q40 12 (pb_I h q41 (0 : Int32).toNatClampNeg) := pb_arx eh45 hg43
            have hg50 : pb_ar h45 q41 12 1 := pb_arx eh45 hg44
            have eq51 : pb_R h45 v0 0 = some q38 := pb_Rx eh45 eq38
            have eq52 : pb_R h45 q38 3 = some q40 := pb_Rx eh45 eq40
            have eq53 : pb_R h45 v0 12 = some q41 := pb_Rx eh45 eq41
            refine And.intro hg46 (And.intro hg46 (Exists.intro q41 (And.intro eq53 (And.intro hg48 (And.intro (Nat.le_of_ble_eq_true rfl) (And.intro hg46 (?_)))))))
            refine hG.1 7 321 kb_97_321 _ _ _ rfl ?_
            cases hf
            exact And.intro rfl rfl
        · rw [if_neg hc76] at hf
          obtain ⟨hg55, hf⟩ := pb_gd hf
          obtain ⟨q56, eq56, hf⟩ := Option.bind_eq_some_iff.mp hf
          obtain ⟨hg57, hf⟩ := pb_gd hf
          obtain ⟨q58, eq58, hf⟩ := Option.bind_eq_some_iff.mp hf
          obtain ⟨q59, eq59, hf⟩ := Option.bind_eq_some_iff.mp hf
          obtain ⟨hg60, hf⟩ := pb_gd hf
          obtain ⟨hg61, hf⟩ := pb_gd hf
          obtain ⟨q62, eq62, hf⟩ := Option.bind_eq_some_iff.mp hf
          obtain ⟨hg63, hf⟩ := pb_gd hf
          obtain ⟨hg64, hf⟩ := pb_gd hf
          refine And.intro hg55 (Exists.intro q56 (And.intro eq56 (And.intro hg57 (Exists.intro q58 (And.intro eq58 (And.intro hg55 (Exists.intro q56 (And.intro eq56 (And.intro hg57 (And.intro hg55 (Exists.intro q59 (And.intro eq59 (And.intro hg60 (And.intro hg61 (And.intro hg55 (Exists.intro q56 (And.intro eq56 (And.intro hg57 (Exists.intro q62 (And.intro eq62 (And.intro hg55 (Exists.intro q56 (And.intro eq56 (And.intro hg57 (And.intro hg55 (Exists.intro q59 (And.intro eq59 (And.intro hg63 (And.intro hg64 (?_))))))))))))))))))))))))))))))
          refine pb_hset (E := pb_pI (pb_pI h q58 (pb_I h q56 1).toNatClampNeg (pb_I h q59 (0 : Int32).toNatClampNeg)) q62 (pb_I (pb_pI h q58 (pb_I h q56 1).toNatClampNeg (pb_I h q59 (0 : Int32).toNatClampNeg)) q56 1).toNatClampNeg (pb_I (pb_pI h q58 (pb_I h q56 1).toNatClampNeg (pb_I h q59 (0 : Int32).toNatClampNeg)) q59 (1 : Int32).toNatClampNeg)) rfl (fun h65 eh65 => ?_)
          have hf := pb_hbd hf eh65
          have hg66 : pb_is h65 v0 6 := pb_isx eh65 hg55
          have hg67 : pb_is h65 q56 0 := pb_isx eh65 hg57
          have hg68 : pb_ar h65 q59 12 0 := pb_arx eh65 hg60
          have hg69 : pb_ar h65 q58 12 (pb_I h q56 1) := pb_arx eh65 hg61
          have hg70 : pb_ar h65 q59 12 1 := pb_arx eh65 hg63
          have hg71 : pb_ar h65 q62 12 (pb_I (pb_pI h q58 (pb_I h q56 1).toNatClampNeg (pb_I h q59 (0 : Int32).toNatClampNeg)) q56 1) := pb_arx eh65 hg64
          have eq72 : pb_R h65 v0 0 = some q56 := pb_Rx eh65 eq56
          have eq73 : pb_R h65 q56 4 = some q58 := pb_Rx eh65 eq58
          have eq74 : pb_R h65 v0 12 = some q59 := pb_Rx eh65 eq59
          have eq75 : pb_R h65 q56 5 = some q62 := pb_Rx eh65 eq62
          refine And.intro hg66 (Exists.intro q56 (And.intro eq72 (And.intro hg67 (And.intro hg67 (?_)))))
          refine hG.1 7 321 kb_97_321 _ _ _ rfl ?_
          cases hf
          exact And.intro rfl rfl
      · rw [if_neg hc92] at hf
        obtain ⟨hg77, hf⟩ := pb_gd hf
        obtain ⟨q78, eq78, hf⟩ := Option.bind_eq_some_iff.mp hf
        obtain ⟨hg79, hf⟩ := pb_gd hf
        obtain ⟨q80, eq80, hf⟩ := Option.bind_eq_some_iff.mp hf
        obtain ⟨q81, eq81, hf⟩ := Option.bind_eq_some_iff.mp hf
        obtain ⟨hg82, hf⟩ := pb_gd hf
        obtain ⟨hg83, hf⟩ := pb_gd hf
        refine And.intro hg77 (Exists.intro q78 (And.intro eq78 (And.intro hg79 (Exists.intro q80 (And.intro eq80 (And.intro hg77 (Exists.intro q78 (And.intro eq78 (And.intro hg79 (And.intro hg77 (Exists.intro q81 (And.intro eq81 (And.intro hg82 (And.intro hg83 (And.intro hg77 (Exists.intro q78 (And.intro eq78 (And.intro hg79 (And.intro hg79 (?_))))))))))))))))))))
        refine pb_hset (E := pb_pI (pb_pI h q80 (pb_I h q78 0).toNatClampNeg (pb_I h q81 (0 : Int32).toNatClampNeg)) q78 0 ((pb_I (pb_pI h q80 (pb_I h q78 0).toNatClampNeg (pb_I h q81 (0 : Int32).toNatClampNeg)) q78 0) + 1)) rfl (fun h84 eh84 => ?_)
        have hf := pb_hbd hf eh84
        have hg85 : pb_is h84 v0 6 := pb_isx eh84 hg77
        have hg86 : pb_is h84 q78 0 := pb_isx eh84 hg79
        have hg87 : pb_ar h84 q81 12 0 := pb_arx eh84 hg82
        have hg88 : pb_ar h84 q80 12 (pb_I h q78 0) := pb_arx eh84 hg83
        have eq89 : pb_R h84 v0 0 = some q78 := pb_Rx eh84 eq78
        have eq90 : pb_R h84 q78 2 = some q80 := pb_Rx eh84 eq80
        have eq91 : pb_R h84 v0 12 = some q81 := pb_Rx eh84 eq81
        refine hG.1 7 321 kb_97_321 _ _ _ rfl ?_
        cases hf
        exact And.intro rfl rfl
    · rw [if_neg hc102] at hf
      obtain ⟨hg93, hf⟩ := pb_gd hf
      obtain ⟨q94, eq94, hf⟩ := Option.bind_eq_some_iff.mp hf
      obtain ⟨q95, eq95, hf⟩ := Option.bind_eq_some_iff.mp hf
      obtain ⟨hg96, hf⟩ := pb_gd hf
      obtain ⟨hg97, hf⟩ := pb_gd hf
      obtain ⟨hg98, hf⟩ := pb_gd hf
      obtain ⟨hg99, hf⟩ := pb_gd hf
      refine And.intro hg93 (Exists.intro q94 (And.intro eq94 (And.intro hg2 (And.intro hg93 (Exists.intro q95 (And.intro eq95 (And.intro hg96 (And.intro hg93 (Exists.intro q95 (And.intro eq95 (And.intro hg97 (And.intro hg93 (Exists.intro q95 (And.intro eq95 (And.intro hg98 (?_))))))))))))))))
      obtain ⟨h101, cr100, hf⟩ := Option.bind_eq_some_iff.mp hf
      refine And.intro hg99 (And.intro (Nat.le_of_ble_eq_true rfl) (And.intro (Nat.le_of_ble_eq_true rfl) (Exists.intro none (Exists.intro _ (And.intro (l_72 cr100) (?_))))))
      refine hG.1 7 321 kb_97_321 _ _ _ rfl ?_
      cases hf
      exact And.intro rfl rfl
  · rw [if_neg hc111] at hf
    obtain ⟨hg103, hf⟩ := pb_gd hf
    obtain ⟨q104, eq104, hf⟩ := Option.bind_eq_some_iff.mp hf
    obtain ⟨q105, eq105, hf⟩ := Option.bind_eq_some_iff.mp hf
    obtain ⟨hg106, hf⟩ := pb_gd hf
    obtain ⟨hg107, hf⟩ := pb_gd hf
    obtain ⟨hg108, hf⟩ := pb_gd hf
    refine And.intro hg103 (Exists.intro q104 (And.intro eq104 (And.intro hg1 (And.intro hg103 (Exists.intro q105 (And.intro eq105 (And.intro hg106 (And.intro hg103 (Exists.intro q105 (And.intro eq105 (And.intro hg107 (?_))))))))))))
    obtain ⟨h110, cr109, hf⟩ := Option.bind_eq_some_iff.mp hf
    refine And.intro hg108 (And.intro (Nat.le_of_ble_eq_true rfl) (And.intro (Nat.le_of_ble_eq_true rfl) (Exists.intro none (Exists.intro _ (And.intro (l_72 cr109) (?_))))))
    refine hG.1 7 321 kb_97_321 _ _ _ rfl ?_
    cases hf
    exact And.intro rfl rfl
def f_113_26s (N : Nat) (v0 : Nat) (v1 : Nat) (v2 : Int32) (v3 : Int32) (v4 : Int32) (v5 : Int32) (s : Int32 × pb_HP) : Option ((Int32 × pb_HP) ⊕ (pb_HP)) :=
  if pb_is s.2 v0 8 then ((pb_R s.2 v0 0).bind fun q7 => (if pb_is s.2 q7 0 then (if (pb_I s.2 q7 0) ≤ s.1 then (some (.inr s.2)) else ((pb_R s.2 q7 3).bind fun q9 => (if pb_ar s.2 q9 12 s.1 then (some (.inl ((s.1 + 1, pb_pI s.2 q9 s.1.toNatClampNeg ((pb_I s.2 q9 s.1.toNatClampNeg) &&& (((1 : Int32) <<< (v5 &&& 31)) ^^^ ((-1)))))))) else none))) else none)) else none
def f_113_69s (N : Nat) (h : pb_HP) (v0 : Nat) (v1 : Nat) (v2 : Int32) (v3 : Int32) (v4 : Int32) (v5 : Int32) (s : Int32 × Int32) : Option ((Int32 × Int32) ⊕ (Int32)) :=
  if pb_is h v0 8 then ((pb_R h v0 0).bind fun q14 => (if pb_is h q14 0 then (if (pb_I h q14 1) ≤ s.2 then (some (.inr s.1)) else ((f_11 N h q14 s.2 63).bind fun r16 => (if pb_is h v1 0 then ((f_11 N h v1 s.2 63).bind fun r18 => (if r16 = r18 then (some (.inl ((s.1, s.2 + 1)))) else (some (.inl ((s.1 + 1, s.2 + 1)))))) else none))) else none)) else none
def f_113_8s (N : Nat) (v0 : Nat) (v1 : Nat) (v2 : Int32) (s : Int32 × Int32 × Int32 × pb_HP) : Option ((Int32 × Int32 × Int32 × pb_HP) ⊕ (Int32 × Int32 × pb_HP)) :=
  if 6 ≤ s.2.2.1 then (some (.inr ((s.1, s.2.1, s.2.2.2)))) else (if pb_is s.2.2.2 v0 8 then ((pb_R s.2.2.2 v0 0).bind fun q2 => (if pb_is s.2.2.2 q2 0 then ((f_2 s.2.2.2 q2 v1).bind fun h5 => ((pb_wl (f_113_26s N v0 v1 v2 s.1 s.2.1 s.2.2.1) N ((0, h5))).bind fun e12 => ((pb_wl (f_113_69s N e12 v0 v1 v2 s.1 s.2.1 s.2.2.1) N ((0, 0))).bind fun e21 => (if e21 ≤ s.1 then (some (.inl ((s.1, s.2.1, s.2.2.1 + 1, e12)))) else (some (.inl ((e21, s.2.2.1, s.2.2.1 + 1, e12)))))))) else none)) else none)
/-- Trial.banned -/
def f_113 (N : Nat) (h : pb_HP) (v0 : Nat) (v1 : Nat) (v2 : Int32) : Option (Int32 × pb_HP) :=
  (pb_wl (f_113_8s N v0 v1 v2) N (((-1), 0, 0, h))).bind fun e24 => (if v2 = 0 then (some ((e24.2.1, e24.2.2))) else (some ((e24.1, e24.2.2))))
set_option maxRecDepth 4000 in
theorem l_113 {xs : List Int32} {d : Nat} {N : Nat} {h : pb_HP} {v0 : Nat} {v1 : Nat} {v2 : Int32} {r : Int32} {hE : pb_HP} (hf : f_113 N h v0 v1 v2 = some ((r, hE))) : pb_AR xs (d + 3) 113 h [.ref v0, .ref v1, .int v2] (some (.int r)) hE := by
  intro G hG
  have hc_ : pb_CODE 113 = kc_113 := rfl
  rw [hc_] at hG
  have hl_26 : ∀ (v0 : Nat) (v1 : Nat) (v2 : Int32) (v3 : Int32) (v4 : Int32) (v5 : Int32) (n_ : Nat) (s : Int32 × pb_HP) (e : pb_HP), pb_wl (f_113_26s N v0 v1 v2 v3 v4 v5) n_ s = some e → G 63 [(0, .ref v0), (1, .ref v1), (2, .int v2), (3, .int v3), (4, .int v4), (5, .int v5)] [] e → G 26 [(0, .ref v0), (1, .ref v1), (2, .int v2), (3, .int v3), (4, .int v4), (5, .int v5), (6, .int s.1)] [] s.2 := by
    intro v0 v1 v2 v3 v4 v5
    refine pb_wl_ind (I := fun (s : Int32 × pb_HP) => G 26 [(0, .ref v0), (1, .ref v1), (2, .int v2), (3, .int v3), (4, .int v4), (5, .int v5), (6, .int s.1)] [] s.2) (K := fun (e : pb_HP) => G 63 [(0, .ref v0), (1, .ref v1), (2, .int v2), (3, .int v3), (4, .int v4), (5, .int v5)] [] e) (fun s x hf hk => ?_)
    unfold f_113_26s at hf
    refine hG.1 2 26 kb_113_26 _ _ _ rfl ?_
    obtain ⟨hg6, hf⟩ := pb_gd hf
    obtain ⟨q7, eq7, hf⟩ := Option.bind_eq_some_iff.mp hf
    obtain ⟨hg8, hf⟩ := pb_gd hf
    refine And.intro hg6 (Exists.intro q7 (And.intro eq7 (And.intro hg8 (?_))))
    refine And.intro (fun (hc11 : (pb_I s.2 q7 0) ≤ s.1) => ?_) (fun (hc11 : ¬ ((pb_I s.2 q7 0) ≤ s.1)) => ?_)
    · rw [if_pos hc11] at hf
      cases hf
      exact hG.2 63 _ [0, 1, 2, 3, 4, 5] _ _ _ rfl hk
    · rw [if_neg hc11] at hf
      obtain ⟨q9, eq9, hf⟩ := Option.bind_eq_some_iff.mp hf
      obtain ⟨hg10, hf⟩ := pb_gd hf
      refine And.intro hg6 (Exists.intro q7 (And.intro eq7 (And.intro hg8 (Exists.intro q9 (And.intro eq9 (And.intro hg10 (And.intro hg10 (?_))))))))
      cases hf
      exact hk
  have hl_69 : ∀ (h : pb_HP) (v0 : Nat) (v1 : Nat) (v2 : Int32) (v3 : Int32) (v4 : Int32) (v5 : Int32) (n_ : Nat) (s : Int32 × Int32) (e : Int32), pb_wl (f_113_69s N h v0 v1 v2 v3 v4 v5) n_ s = some e → G 112 [(0, .ref v0), (1, .ref v1), (2, .int v2), (3, .int v3), (4, .int v4), (5, .int v5), (6, .int e)] [] h → G 69 [(0, .ref v0), (1, .ref v1), (2, .int v2), (3, .int v3), (4, .int v4), (5, .int v5), (6, .int s.1), (7, .int s.2)] [] h := by
    intro h v0 v1 v2 v3 v4 v5
    refine pb_wl_ind (I := fun (s : Int32 × Int32) => G 69 [(0, .ref v0), (1, .ref v1), (2, .int v2), (3, .int v3), (4, .int v4), (5, .int v5), (6, .int s.1), (7, .int s.2)] [] h) (K := fun (e : Int32) => G 112 [(0, .ref v0), (1, .ref v1), (2, .int v2), (3, .int v3), (4, .int v4), (5, .int v5), (6, .int e)] [] h) (fun s x hf hk => ?_)
    unfold f_113_69s at hf
    refine hG.1 4 69 kb_113_69 _ _ _ rfl ?_
    obtain ⟨hg13, hf⟩ := pb_gd hf
    obtain ⟨q14, eq14, hf⟩ := Option.bind_eq_some_iff.mp hf
    obtain ⟨hg15, hf⟩ := pb_gd hf
    refine And.intro hg13 (Exists.intro q14 (And.intro eq14 (And.intro hg15 (?_))))
    refine And.intro (fun (hc20 : (pb_I h q14 1) ≤ s.2) => ?_) (fun (hc20 : ¬ ((pb_I h q14 1) ≤ s.2)) => ?_)
    · rw [if_pos hc20] at hf
      cases hf
      exact hG.2 112 _ [0, 1, 2, 3, 4, 5, 6] _ _ _ rfl hk
    · rw [if_neg hc20] at hf
      refine And.intro hg13 (Exists.intro q14 (And.intro eq14 (?_)))
      obtain ⟨r16, cr16, hf⟩ := Option.bind_eq_some_iff.mp hf
      refine And.intro hg15 (And.intro (Nat.le_of_ble_eq_true rfl) (And.intro (Nat.le_of_ble_eq_true rfl) (Exists.intro (some (.int r16)) (Exists.intro _ (And.intro (l_11 cr16) (?_))))))
      obtain ⟨hg17, hf⟩ := pb_gd hf
      obtain ⟨r18, cr18, hf⟩ := Option.bind_eq_some_iff.mp hf
      refine And.intro hg17 (And.intro (Nat.le_of_ble_eq_true rfl) (And.intro (Nat.le_of_ble_eq_true rfl) (Exists.intro (some (.int r18)) (Exists.intro _ (And.intro (l_11 cr18) (?_))))))
      refine And.intro (fun (hc19 : r16 = r18) => ?_) (fun (hc19 : ¬ (r16 = r18)) => ?_)
      · rw [if_pos hc19] at hf
        refine hG.1 5 106 kb_113_106 _ _ _ rfl ?_
        cases hf
        exact hk
      · rw [if_neg hc19] at hf
        refine hG.1 5 106 kb_113_106 _ _ _ rfl ?_
        cases hf
        exact hk
  have hl_8 : ∀ (v0 : Nat) (v1 : Nat) (v2 : Int32) (n_ : Nat) (s : Int32 × Int32 × Int32 × pb_HP) (e : Int32 × Int32 × pb_HP), pb_wl (f_113_8s N v0 v1 v2) n_ s = some e → G 131 [(2, .int v2), (3, .int e.1), (4, .int e.2.1)] [] e.2.2 → G 8 [(0, .ref v0), (1, .ref v1), (2, .int v2), (3, .int s.1), (4, .int s.2.1), (5, .int s.2.2.1)] [] s.2.2.2 := by
    intro v0 v1 v2
    refine pb_wl_ind (I := fun (s : Int32 × Int32 × Int32 × pb_HP) => G 8 [(0, .ref v0), (1, .ref v1), (2, .int v2), (3, .int s.1), (4, .int s.2.1), (5, .int s.2.2.1)] [] s.2.2.2) (K := fun (e : Int32 × Int32 × pb_HP) => G 131 [(2, .int v2), (3, .int e.1), (4, .int e.2.1)] [] e.2.2) (fun s x hf hk => ?_)
    unfold f_113_8s at hf
    refine hG.1 1 8 kb_113_8 _ _ _ rfl ?_
    refine And.intro (fun (hc23 : 6 ≤ s.2.2.1) => ?_) (fun (hc23 : ¬ (6 ≤ s.2.2.1)) => ?_)
    · rw [if_pos hc23] at hf
      cases hf
      exact hG.2 131 _ [2, 3, 4] _ _ _ rfl hk
    · rw [if_neg hc23] at hf
      obtain ⟨hg1, hf⟩ := pb_gd hf
      obtain ⟨q2, eq2, hf⟩ := Option.bind_eq_some_iff.mp hf
      obtain ⟨hg3, hf⟩ := pb_gd hf
      refine And.intro hg1 (Exists.intro q2 (And.intro eq2 (?_)))
      obtain ⟨h5, cr4, hf⟩ := Option.bind_eq_some_iff.mp hf
      refine And.intro hg3 (And.intro (Nat.le_of_ble_eq_true rfl) (And.intro (Nat.le_of_ble_eq_true rfl) (Exists.intro none (Exists.intro _ (And.intro (l_2 cr4) (?_))))))
      obtain ⟨e12, he_e12, hf⟩ := Option.bind_eq_some_iff.mp hf
      refine hl_26 _ _ _ _ _ _ _ _ _ he_e12 ?_
      refine hG.1 3 63 kb_113_63 _ _ _ rfl ?_
      obtain ⟨e21, he_e21, hf⟩ := Option.bind_eq_some_iff.mp hf
      refine hl_69 _ _ _ _ _ _ _ _ _ _ he_e21 ?_
      refine hG.1 6 112 kb_113_112 _ _ _ rfl ?_
      refine And.intro (fun (hc22 : e21 ≤ s.1) => ?_) (fun (hc22 : ¬ (e21 ≤ s.1)) => ?_)
      · rw [if_pos hc22] at hf
        refine hG.1 7 125 kb_113_125 _ _ _ rfl ?_
        cases hf
        exact hG.2 8 _ [0, 1, 2, 3, 4, 5] _ _ _ rfl hk
      · rw [if_neg hc22] at hf
        refine hG.1 7 125 kb_113_125 _ _ _ rfl ?_
        cases hf
        exact hG.2 8 _ [0, 1, 2, 3, 4, 5] _ _ _ rfl hk
  unfold f_113 at hf
  refine hG.1 0 0 kb_113_0 _ _ _ rfl ?_
  obtain ⟨e24, he_e24, hf⟩ := Option.bind_eq_some_iff.mp hf
  refine hl_8 _ _ _ _ _ _ he_e24 ?_
  refine hG.1 8 131 kb_113_131 _ _ _ rfl ?_
  refine And.intro (fun (hc25 : v2 = 0) => ?_) (fun (hc25 : ¬ (v2 = 0)) => ?_)
  · rw [if_pos hc25] at hf
    refine hG.1 9 139 kb_113_139 _ _ _ rfl ?_
    refine hG.1 10 141 kb_113_141 _ _ _ rfl ?_
    cases hf
    exact And.intro (fun z_ => absurd z_ (by decide)) (And.intro rfl rfl)
  · rw [if_neg hc25] at hf
    refine hG.1 10 141 kb_113_141 _ _ _ rfl ?_
    cases hf
    exact And.intro (fun z_ => absurd z_ (by decide)) (And.intro rfl rfl)
/-- PointedBench.deed -/
def f_129 (h : pb_HP) (v0 : Nat) (v1 : Int32) (v2 : Int32) (v3 : Int32) : Option (Int32) :=
  if pb_is h v0 10 then ((pb_R h v0 0).bind fun q2 => (if pb_is h q2 7 then ((f_106 h q2 v1).bind fun r4 => (match r4 with | none => (some ((-2))) | some q5 => (if pb_is h q5 4 then ((f_74 h q5 v2 v3).bind fun r7 => (some r7)) else none))) else none)) else none
set_option maxRecDepth 4000 in
theorem l_129 {xs : List Int32} {d : Nat} {h : pb_HP} {v0 : Nat} {v1 : Int32} {v2 : Int32} {v3 : Int32} {r : Int32} (hf : f_129 h v0 v1 v2 v3 = some r) : pb_AR xs (d + 3) 129 h [.ref v0, .int v1, .int v2, .int v3] (some (.int r)) h := by
  intro G hG
  have hc_ : pb_CODE 129 = kc_129 := rfl
  rw [hc_] at hG
  unfold f_129 at hf
  refine hG.1 0 0 kb_129_0 _ _ _ rfl ?_
  obtain ⟨hg1, hf⟩ := pb_gd hf
  obtain ⟨q2, eq2, hf⟩ := Option.bind_eq_some_iff.mp hf
  obtain ⟨hg3, hf⟩ := pb_gd hf
  refine And.intro hg1 (Exists.intro q2 (And.intro eq2 (?_)))
  obtain ⟨r4, cr4, hf⟩ := Option.bind_eq_some_iff.mp hf
  refine And.intro hg3 (And.intro (Nat.le_of_ble_eq_true rfl) (And.intro (Nat.le_of_ble_eq_true rfl) (Exists.intro (some (pb_rv r4)) (Exists.intro _ (And.intro (l_106 cr4) (?_))))))
  cases r4 with
  | none =>
    try dsimp only at hf
    refine hG.1 2 27 kb_129_27 _ _ _ rfl ?_
    cases hf
    exact And.intro (fun z_ => absurd z_ (by decide)) (And.intro rfl rfl)
  | some q5 =>
    try dsimp only at hf
    refine hG.1 1 20 kb_129_20 _ _ _ rfl ?_
    obtain ⟨hg6, hf⟩ := pb_gd hf
    obtain ⟨r7, cr7, hf⟩ := Option.bind_eq_some_iff.mp hf
    refine And.intro hg6 (And.intro (Nat.le_of_ble_eq_true rfl) (And.intro (Nat.le_of_ble_eq_true rfl) (Exists.intro (some (.int r7)) (Exists.intro _ (And.intro (l_74 cr7) (?_))))))
    refine hG.1 2 27 kb_129_27 _ _ _ rfl ?_
    cases hf
    exact And.intro (fun z_ => absurd z_ (by decide)) (And.intro rfl rfl)
def f_138_91 (N : Nat) (h : pb_HP) (v5 : Int32) (v6 : Nat) (v8 : Int64) (s0 : Int64) : Option (Int64) :=
  if pb_is h v6 0 then ((f_8 N h v6).bind fun r11 => ((f_166 N s0 r11).bind fun r12 => ((f_166 N v8 r11).bind fun r13 => ((f_165 N r12 r13 v5).bind fun r14 => (some r14))))) else none
def f_138_68 (N : Nat) (h : pb_HP) (v3 : Int32) (v4 : Int32) (v5 : Int32) (v6 : Nat) (v7 : Int32) (s0 : Int64) : Option (Int64) :=
  if v4 = 0 then (f_138_91 N h v5 v6 s0 (Int32.toInt64 v7)) else ((f_166 N (Int32.toInt64 v7) v3).bind fun r15 => (f_138_91 N h v5 v6 s0 (s0 - r15)))
/-- PointedBench.quiet -/
def f_138 (N : Nat) (h : pb_HP) (v0 : Nat) (v1 : Int32) (v2 : Int32) (v3 : Int32) (v4 : Int32) (v5 : Int32) : Option (Int64) :=
  if pb_is h v0 10 then ((pb_R h v0 0).bind fun q2 => (if pb_is h q2 7 then ((f_105 h q2 v1).bind fun r4 => (match r4 with | none => (some ((-1))) | some q5 => (if pb_is h q5 0 then ((f_3 h q5 v2).bind fun r7 => (if r7 = 0 then (some ((-1))) else (if v3 < 1 then (some ((-1))) else (if v3 ≤ 3 then ((pb_R h q5 2).bind fun q8 => (if pb_ar h q8 12 v2 then (if v4 = 0 then (f_138_68 N h v3 v4 v5 q5 (10 - (pb_I h q8 v2.toNatClampNeg)) 10) else ((f_166 N 10 v3).bind fun r17 => (f_138_68 N h v3 v4 v5 q5 (10 - (pb_I h q8 v2.toNatClampNeg)) r17))) else none)) else (some ((-1))))))) else none))) else none)) else none
set_option maxRecDepth 4000 in
theorem l_138 {xs : List Int32} {d : Nat} {N : Nat} {h : pb_HP} {v0 : Nat} {v1 : Int32} {v2 : Int32} {v3 : Int32} {v4 : Int32} {v5 : Int32} {r : Int64} (hf : f_138 N h v0 v1 v2 v3 v4 v5 = some r) : pb_AR xs (d + 3) 138 h [.ref v0, .int v1, .int v2, .int v3, .int v4, .int v5] (some (.long r)) h := by
  intro G hG
  have hc_ : pb_CODE 138 = kc_138 := rfl
  rw [hc_] at hG
  have hj_91 : ∀ (v5 : Int32) (v6 : Nat) (v8 : Int64) (s0 : Int64), f_138_91 N h v5 v6 v8 s0 = some r → G 91 [(5, .int v5), (6, .ref v6), (8, .long v8)] [.long s0] h := by
    intro v5 v6 v8 s0 hf
    unfold f_138_91 at hf
    refine hG.1 6 91 kb_138_91 _ _ _ rfl ?_
    obtain ⟨hg10, hf⟩ := pb_gd hf
    obtain ⟨r11, cr11, hf⟩ := Option.bind_eq_some_iff.mp hf
    refine And.intro hg10 (And.intro (Nat.le_of_ble_eq_true rfl) (And.intro (Nat.le_of_ble_eq_true rfl) (Exists.intro (some (.int r11)) (Exists.intro _ (And.intro (l_8 cr11) (?_))))))
    obtain ⟨r12, cr12, hf⟩ := Option.bind_eq_some_iff.mp hf
    refine And.intro (Nat.le_of_ble_eq_true rfl) (And.intro (Nat.le_of_ble_eq_true rfl) (And.intro (Nat.le_of_ble_eq_true rfl) (Exists.intro (some (.long r12)) (Exists.intro _ (And.intro (l_166 cr12) (?_))))))
    obtain ⟨r13, cr13, hf⟩ := Option.bind_eq_some_iff.mp hf
    refine And.intro (Nat.le_of_ble_eq_true rfl) (And.intro (Nat.le_of_ble_eq_true rfl) (And.intro (Nat.le_of_ble_eq_true rfl) (Exists.intro (some (.long r13)) (Exists.intro _ (And.intro (l_166 cr13) (?_))))))
    obtain ⟨r14, cr14, hf⟩ := Option.bind_eq_some_iff.mp hf
    refine And.intro (Nat.le_of_ble_eq_true rfl) (And.intro (Nat.le_of_ble_eq_true rfl) (And.intro (Nat.le_of_ble_eq_true rfl) (Exists.intro (some (.long r14)) (Exists.intro _ (And.intro (l_165 cr14) (?_))))))
    cases hf
    exact And.intro rfl rfl
  have hj_68 : ∀ (v3 : Int32) (v4 : Int32) (v5 : Int32) (v6 : Nat) (v7 : Int32) (s0 : Int64), f_138_68 N h v3 v4 v5 v6 v7 s0 = some r → G 68 [(3, .int v3), (4, .int v4), (5, .int v5), (6, .ref v6), (7, .int v7)] [.long s0] h := by
    intro v3 v4 v5 v6 v7 s0 hf
    unfold f_138_68 at hf
    refine hG.1 4 68 kb_138_68 _ _ _ rfl ?_
    refine And.intro (fun (hc16 : v4 = 0) => ?_) (fun (hc16 : ¬ (v4 = 0)) => ?_)
    · rw [if_pos hc16] at hf
      refine hG.1 5 88 kb_138_88 _ _ _ rfl ?_
      refine hG.2 91 _ [2, 3, 5] _ _ _ rfl ?_
      exact hj_91 _ _ _ _ hf
    · rw [if_neg hc16] at hf
      obtain ⟨r15, cr15, hf⟩ := Option.bind_eq_some_iff.mp hf
      refine And.intro (Nat.le_of_ble_eq_true rfl) (And.intro (Nat.le_of_ble_eq_true rfl) (And.intro (Nat.le_of_ble_eq_true rfl) (Exists.intro (some (.long r15)) (Exists.intro _ (And.intro (l_166 cr15) (?_))))))
      refine hG.2 91 _ [2, 3, 5] _ _ _ rfl ?_
      exact hj_91 _ _ _ _ hf
  unfold f_138 at hf
  refine hG.1 0 0 kb_138_0 _ _ _ rfl ?_
  obtain ⟨hg1, hf⟩ := pb_gd hf
  obtain ⟨q2, eq2, hf⟩ := Option.bind_eq_some_iff.mp hf
  obtain ⟨hg3, hf⟩ := pb_gd hf
  refine And.intro hg1 (Exists.intro q2 (And.intro eq2 (?_)))
  obtain ⟨r4, cr4, hf⟩ := Option.bind_eq_some_iff.mp hf
  refine And.intro hg3 (And.intro (Nat.le_of_ble_eq_true rfl) (And.intro (Nat.le_of_ble_eq_true rfl) (Exists.intro (some (pb_rv r4)) (Exists.intro _ (And.intro (l_105 cr4) (?_))))))
  cases r4 with
  | none =>
    try dsimp only at hf
    refine hG.1 1 34 kb_138_34 _ _ _ rfl ?_
    cases hf
    exact And.intro rfl rfl
  | some q5 =>
    try dsimp only at hf
    obtain ⟨hg6, hf⟩ := pb_gd hf
    obtain ⟨r7, cr7, hf⟩ := Option.bind_eq_some_iff.mp hf
    refine And.intro hg6 (And.intro (Nat.le_of_ble_eq_true rfl) (And.intro (Nat.le_of_ble_eq_true rfl) (Exists.intro (some (.int r7)) (Exists.intro _ (And.intro (l_3 cr7) (?_))))))
    refine And.intro (fun (hc21 : r7 = 0) => ?_) (fun (hc21 : ¬ (r7 = 0)) => ?_)
    · rw [if_pos hc21] at hf
      refine hG.1 1 34 kb_138_34 _ _ _ rfl ?_
      cases hf
      exact And.intro rfl rfl
    · rw [if_neg hc21] at hf
      refine And.intro (fun (hc20 : v3 < 1) => ?_) (fun (hc20 : ¬ (v3 < 1)) => ?_)
      · rw [if_pos hc20] at hf
        refine hG.1 1 34 kb_138_34 _ _ _ rfl ?_
        cases hf
        exact And.intro rfl rfl
      · rw [if_neg hc20] at hf
        refine And.intro (fun (hc19 : v3 ≤ 3) => ?_) (fun (hc19 : ¬ (v3 ≤ 3)) => ?_)
        · rw [if_pos hc19] at hf
          refine hG.1 2 38 kb_138_38 _ _ _ rfl ?_
          obtain ⟨q8, eq8, hf⟩ := Option.bind_eq_some_iff.mp hf
          obtain ⟨hg9, hf⟩ := pb_gd hf
          refine And.intro hg6 (Exists.intro q8 (And.intro eq8 (And.intro hg9 (?_))))
          refine And.intro (fun (hc18 : v4 = 0) => ?_) (fun (hc18 : ¬ (v4 = 0)) => ?_)
          · rw [if_pos hc18] at hf
            refine hG.1 3 65 kb_138_65 _ _ _ rfl ?_
            refine hG.2 68 _ [3, 4, 5, 6, 7] _ _ _ rfl ?_
            exact hj_68 _ _ _ _ _ _ hf
          · rw [if_neg hc18] at hf
            obtain ⟨r17, cr17, hf⟩ := Option.bind_eq_some_iff.mp hf
            refine And.intro (Nat.le_of_ble_eq_true rfl) (And.intro (Nat.le_of_ble_eq_true rfl) (And.intro (Nat.le_of_ble_eq_true rfl) (Exists.intro (some (.long r17)) (Exists.intro _ (And.intro (l_166 cr17) (?_))))))
            refine hG.2 68 _ [3, 4, 5, 6, 7] _ _ _ rfl ?_
            exact hj_68 _ _ _ _ _ _ hf
        · rw [if_neg hc19] at hf
          refine hG.1 1 34 kb_138_34 _ _ _ rfl ?_
          cases hf
          exact And.intro rfl rfl
/-- PointedBench.fact -/
def f_139 (h : pb_HP) (v0 : Nat) (v1 : Int32) (v2 : Int32) (v3 : Int32) : Option (Int32) :=
  if pb_is h v0 10 then ((pb_R h v0 0).bind fun q2 => (if pb_is h q2 7 then ((f_107 h q2 v1).bind fun r4 => (match r4 with | none => (some ((-2))) | some q5 => (if pb_is h q5 4 then ((f_74 h q5 v2 v3).bind fun r7 => (some r7)) else none))) else none)) else none
set_option maxRecDepth 4000 in
theorem l_139 {xs : List Int32} {d : Nat} {h : pb_HP} {v0 : Nat} {v1 : Int32} {v2 : Int32} {v3 : Int32} {r : Int32} (hf : f_139 h v0 v1 v2 v3 = some r) : pb_AR xs (d + 3) 139 h [.ref v0, .int v1, .int v2, .int v3] (some (.int r)) h := by
  intro G hG
  have hc_ : pb_CODE 139 = kc_139 := rfl
  rw [hc_] at hG
  unfold f_139 at hf
  refine hG.1 0 0 kb_139_0 _ _ _ rfl ?_
  obtain ⟨hg1, hf⟩ := pb_gd hf
  obtain ⟨q2, eq2, hf⟩ := Option.bind_eq_some_iff.mp hf
  obtain ⟨hg3, hf⟩ := pb_gd hf
  refine And.intro hg1 (Exists.intro q2 (And.intro eq2 (?_)))
  obtain ⟨r4, cr4, hf⟩ := Option.bind_eq_some_iff.mp hf
  refine And.intro hg3 (And.intro (Nat.le_of_ble_eq_true rfl) (And.intro (Nat.le_of_ble_eq_true rfl) (Exists.intro (some (pb_rv r4)) (Exists.intro _ (And.intro (l_107 cr4) (?_))))))
  cases r4 with
  | none =>
    try dsimp only at hf
    refine hG.1 2 27 kb_139_27 _ _ _ rfl ?_
    cases hf
    exact And.intro (fun z_ => absurd z_ (by decide)) (And.intro rfl rfl)
  | some q5 =>
    try dsimp only at hf
    refine hG.1 1 20 kb_139_20 _ _ _ rfl ?_
    obtain ⟨hg6, hf⟩ := pb_gd hf
    obtain ⟨r7, cr7, hf⟩ := Option.bind_eq_some_iff.mp hf
    refine And.intro hg6 (And.intro (Nat.le_of_ble_eq_true rfl) (And.intro (Nat.le_of_ble_eq_true rfl) (Exists.intro (some (.int r7)) (Exists.intro _ (And.intro (l_74 cr7) (?_))))))
    refine hG.1 2 27 kb_139_27 _ _ _ rfl ?_
    cases hf
    exact And.intro (fun z_ => absurd z_ (by decide)) (And.intro rfl rfl)
/-- PointedBench.kindest -/
def f_147 (N : Nat) (h : pb_HP) (v0 : Nat) (v1 : Int32) (v2 : Int32) : Option (Int32) :=
  if pb_is h v0 10 then ((pb_R h v0 0).bind fun q2 => (if pb_is h q2 7 then ((f_105 h q2 v1).bind fun r4 => (match r4 with | none => (some ((-1))) | some q5 => (if pb_is h q5 0 then ((f_21 N h q5 v2).bind fun r7 => (some r7)) else none))) else none)) else none
set_option maxRecDepth 4000 in
theorem l_147 {xs : List Int32} {d : Nat} {N : Nat} {h : pb_HP} {v0 : Nat} {v1 : Int32} {v2 : Int32} {r : Int32} (hf : f_147 N h v0 v1 v2 = some r) : pb_AR xs (d + 3) 147 h [.ref v0, .int v1, .int v2] (some (.int r)) h := by
  intro G hG
  have hc_ : pb_CODE 147 = kc_147 := rfl
  rw [hc_] at hG
  unfold f_147 at hf
  refine hG.1 0 0 kb_147_0 _ _ _ rfl ?_
  obtain ⟨hg1, hf⟩ := pb_gd hf
  obtain ⟨q2, eq2, hf⟩ := Option.bind_eq_some_iff.mp hf
  obtain ⟨hg3, hf⟩ := pb_gd hf
  refine And.intro hg1 (Exists.intro q2 (And.intro eq2 (?_)))
  obtain ⟨r4, cr4, hf⟩ := Option.bind_eq_some_iff.mp hf
  refine And.intro hg3 (And.intro (Nat.le_of_ble_eq_true rfl) (And.intro (Nat.le_of_ble_eq_true rfl) (Exists.intro (some (pb_rv r4)) (Exists.intro _ (And.intro (l_105 cr4) (?_))))))
  cases r4 with
  | none =>
    try dsimp only at hf
    refine hG.1 2 22 kb_147_22 _ _ _ rfl ?_
    cases hf
    exact And.intro (fun z_ => absurd z_ (by decide)) (And.intro rfl rfl)
  | some q5 =>
    try dsimp only at hf
    refine hG.1 1 17 kb_147_17 _ _ _ rfl ?_
    obtain ⟨hg6, hf⟩ := pb_gd hf
    obtain ⟨r7, cr7, hf⟩ := Option.bind_eq_some_iff.mp hf
    refine And.intro hg6 (And.intro (Nat.le_of_ble_eq_true rfl) (And.intro (Nat.le_of_ble_eq_true rfl) (Exists.intro (some (.int r7)) (Exists.intro _ (And.intro (l_21 cr7) (?_))))))
    refine hG.1 2 22 kb_147_22 _ _ _ rfl ?_
    cases hf
    exact And.intro (fun z_ => absurd z_ (by decide)) (And.intro rfl rfl)
def f_148_29s (N : Nat) (h : pb_HP) (v2 : Int32) (v3 : Nat) (s : Int32 × Int32) : Option ((Int32 × Int32) ⊕ (Int32)) :=
  if pb_is h v3 0 then (if (pb_I h v3 1) ≤ s.2 then (some (.inr s.1)) else ((f_12 h v3 v2 s.2).bind fun r9 => (if r9 = 0 then (some (.inl ((s.1, s.2 + 1)))) else (some (.inl ((s.1 ||| ((1 : Int32) <<< (s.2 &&& 31)), s.2 + 1))))))) else none
/-- PointedBench.freed -/
def f_148 (N : Nat) (h : pb_HP) (v0 : Nat) (v1 : Int32) (v2 : Int32) : Option (Int32) :=
  if pb_is h v0 10 then ((pb_R h v0 0).bind fun q2 => (if pb_is h q2 7 then ((f_105 h q2 v1).bind fun r4 => (match r4 with | none => (some ((-1))) | some q5 => (if pb_is h q5 0 then ((f_3 h q5 v2).bind fun r7 => (if ¬ r7 = 0 then ((pb_wl (f_148_29s N h v2 q5) N ((0, 0))).bind fun e12 => (some e12)) else (some ((-1))))) else none))) else none)) else none
set_option maxRecDepth 4000 in
theorem l_148 {xs : List Int32} {d : Nat} {N : Nat} {h : pb_HP} {v0 : Nat} {v1 : Int32} {v2 : Int32} {r : Int32} (hf : f_148 N h v0 v1 v2 = some r) : pb_AR xs (d + 3) 148 h [.ref v0, .int v1, .int v2] (some (.int r)) h := by
  intro G hG
  have hc_ : pb_CODE 148 = kc_148 := rfl
  rw [hc_] at hG
  have hl_29 : ∀ (v2 : Int32) (v3 : Nat) (n_ : Nat) (s : Int32 × Int32) (e : Int32), pb_wl (f_148_29s N h v2 v3) n_ s = some e → G 63 [(4, .int e)] [] h → G 29 [(2, .int v2), (3, .ref v3), (4, .int s.1), (5, .int s.2)] [] h := by
    intro v2 v3
    refine pb_wl_ind (I := fun (s : Int32 × Int32) => G 29 [(2, .int v2), (3, .ref v3), (4, .int s.1), (5, .int s.2)] [] h) (K := fun (e : Int32) => G 63 [(4, .int e)] [] h) (fun s x hf hk => ?_)
    unfold f_148_29s at hf
    refine hG.1 3 29 kb_148_29 _ _ _ rfl ?_
    obtain ⟨hg8, hf⟩ := pb_gd hf
    refine And.intro hg8 (?_)
    refine And.intro (fun (hc11 : (pb_I h v3 1) ≤ s.2) => ?_) (fun (hc11 : ¬ ((pb_I h v3 1) ≤ s.2)) => ?_)
    · rw [if_pos hc11] at hf
      cases hf
      exact hG.2 63 _ [2] _ _ _ rfl hk
    · rw [if_neg hc11] at hf
      obtain ⟨r9, cr9, hf⟩ := Option.bind_eq_some_iff.mp hf
      refine And.intro hg8 (And.intro (Nat.le_of_ble_eq_true rfl) (And.intro (Nat.le_of_ble_eq_true rfl) (Exists.intro (some (.int r9)) (Exists.intro _ (And.intro (l_12 cr9) (?_))))))
      refine And.intro (fun (hc10 : r9 = 0) => ?_) (fun (hc10 : ¬ (r9 = 0)) => ?_)
      · rw [if_pos hc10] at hf
        refine hG.1 4 57 kb_148_57 _ _ _ rfl ?_
        cases hf
        exact hk
      · rw [if_neg hc10] at hf
        refine hG.1 4 57 kb_148_57 _ _ _ rfl ?_
        cases hf
        exact hk
  unfold f_148 at hf
  refine hG.1 0 0 kb_148_0 _ _ _ rfl ?_
  obtain ⟨hg1, hf⟩ := pb_gd hf
  obtain ⟨q2, eq2, hf⟩ := Option.bind_eq_some_iff.mp hf
  obtain ⟨hg3, hf⟩ := pb_gd hf
  refine And.intro hg1 (Exists.intro q2 (And.intro eq2 (?_)))
  obtain ⟨r4, cr4, hf⟩ := Option.bind_eq_some_iff.mp hf
  refine And.intro hg3 (And.intro (Nat.le_of_ble_eq_true rfl) (And.intro (Nat.le_of_ble_eq_true rfl) (Exists.intro (some (pb_rv r4)) (Exists.intro _ (And.intro (l_105 cr4) (?_))))))
  cases r4 with
  | none =>
    try dsimp only at hf
    refine hG.1 1 21 kb_148_21 _ _ _ rfl ?_
    cases hf
    exact And.intro (fun z_ => absurd z_ (by decide)) (And.intro rfl rfl)
  | some q5 =>
    try dsimp only at hf
    obtain ⟨hg6, hf⟩ := pb_gd hf
    obtain ⟨r7, cr7, hf⟩ := Option.bind_eq_some_iff.mp hf
    refine And.intro hg6 (And.intro (Nat.le_of_ble_eq_true rfl) (And.intro (Nat.le_of_ble_eq_true rfl) (Exists.intro (some (.int r7)) (Exists.intro _ (And.intro (l_3 cr7) (?_))))))
    refine And.intro (fun (hc13 : ¬ r7 = 0) => ?_) (fun (hc13 : ¬ (¬ r7 = 0)) => ?_)
    · rw [if_pos hc13] at hf
      refine hG.1 2 23 kb_148_23 _ _ _ rfl ?_
      obtain ⟨e12, he_e12, hf⟩ := Option.bind_eq_some_iff.mp hf
      refine hG.2 29 _ [2, 3, 4, 5] _ _ _ rfl ?_
      refine hl_29 _ _ _ _ _ he_e12 ?_
      refine hG.1 5 63 kb_148_63 _ _ _ rfl ?_
      cases hf
      exact And.intro (fun z_ => absurd z_ (by decide)) (And.intro rfl rfl)
    · rw [if_neg hc13] at hf
      refine hG.1 1 21 kb_148_21 _ _ _ rfl ?_
      cases hf
      exact And.intro (fun z_ => absurd z_ (by decide)) (And.intro rfl rfl)
def f_149_34s (N : Nat) (h : pb_HP) (v2 : Int32) (v3 : Int32) (v4 : Nat) (s : Int32 × Int32) : Option ((Int32 × Int32) ⊕ (Int32)) :=
  if 6 ≤ s.2 then (some (.inr s.1)) else (if pb_is h v4 0 then ((pb_R h v4 3).bind fun q9 => (if pb_ar h q9 12 v2 then (if (((pb_I h q9 v2.toNatClampNeg) >>> (s.2 &&& 31)) &&& 1) = 0 then (some (.inl ((s.1, s.2 + 1)))) else ((f_10 N h v4 s.2).bind fun r11 => (some (.inl ((s.1 + r11, s.2 + 1)))))) else none)) else none)
/-- PointedBench.liked -/
def f_149 (N : Nat) (h : pb_HP) (v0 : Nat) (v1 : Int32) (v2 : Int32) (v3 : Int32) : Option (Int64) :=
  if pb_is h v0 10 then ((pb_R h v0 0).bind fun q2 => (if pb_is h q2 7 then ((f_105 h q2 v1).bind fun r4 => (match r4 with | none => (some ((-1))) | some q5 => (if pb_is h q5 0 then ((f_3 h q5 v2).bind fun r7 => (if ¬ r7 = 0 then ((pb_wl (f_149_34s N h v2 v3 q5) N ((0, 0))).bind fun e14 => ((f_165 N (Int32.toInt64 e14) (Int32.toInt64 (pb_I h q5 1)) v3).bind fun r15 => (some r15))) else (some ((-1))))) else none))) else none)) else none
set_option maxRecDepth 4000 in
theorem l_149 {xs : List Int32} {d : Nat} {N : Nat} {h : pb_HP} {v0 : Nat} {v1 : Int32} {v2 : Int32} {v3 : Int32} {r : Int64} (hf : f_149 N h v0 v1 v2 v3 = some r) : pb_AR xs (d + 3) 149 h [.ref v0, .int v1, .int v2, .int v3] (some (.long r)) h := by
  intro G hG
  have hc_ : pb_CODE 149 = kc_149 := rfl
  rw [hc_] at hG
  have hl_34 : ∀ (v2 : Int32) (v3 : Int32) (v4 : Nat) (n_ : Nat) (s : Int32 × Int32) (e : Int32), pb_wl (f_149_34s N h v2 v3 v4) n_ s = some e → G 74 [(3, .int v3), (4, .ref v4), (5, .int e)] [] h → G 34 [(2, .int v2), (3, .int v3), (4, .ref v4), (5, .int s.1), (6, .int s.2)] [] h := by
    intro v2 v3 v4
    refine pb_wl_ind (I := fun (s : Int32 × Int32) => G 34 [(2, .int v2), (3, .int v3), (4, .ref v4), (5, .int s.1), (6, .int s.2)] [] h) (K := fun (e : Int32) => G 74 [(3, .int v3), (4, .ref v4), (5, .int e)] [] h) (fun s x hf hk => ?_)
    unfold f_149_34s at hf
    refine hG.1 3 34 kb_149_34 _ _ _ rfl ?_
    refine And.intro (fun (hc13 : 6 ≤ s.2) => ?_) (fun (hc13 : ¬ (6 ≤ s.2)) => ?_)
    · rw [if_pos hc13] at hf
      cases hf
      exact hG.2 74 _ [1, 2, 3] _ _ _ rfl hk
    · rw [if_neg hc13] at hf
      obtain ⟨hg8, hf⟩ := pb_gd hf
      obtain ⟨q9, eq9, hf⟩ := Option.bind_eq_some_iff.mp hf
      obtain ⟨hg10, hf⟩ := pb_gd hf
      refine And.intro hg8 (Exists.intro q9 (And.intro eq9 (And.intro hg10 (?_))))
      refine And.intro (fun (hc12 : (((pb_I h q9 v2.toNatClampNeg) >>> (s.2 &&& 31)) &&& 1) = 0) => ?_) (fun (hc12 : ¬ ((((pb_I h q9 v2.toNatClampNeg) >>> (s.2 &&& 31)) &&& 1) = 0)) => ?_)
      · rw [if_pos hc12] at hf
        refine hG.1 4 68 kb_149_68 _ _ _ rfl ?_
        cases hf
        exact hk
      · rw [if_neg hc12] at hf
        obtain ⟨r11, cr11, hf⟩ := Option.bind_eq_some_iff.mp hf
        refine And.intro hg8 (And.intro (Nat.le_of_ble_eq_true rfl) (And.intro (Nat.le_of_ble_eq_true rfl) (Exists.intro (some (.int r11)) (Exists.intro _ (And.intro (l_10 cr11) (?_))))))
        refine hG.1 4 68 kb_149_68 _ _ _ rfl ?_
        cases hf
        exact hk
  unfold f_149 at hf
  refine hG.1 0 0 kb_149_0 _ _ _ rfl ?_
  obtain ⟨hg1, hf⟩ := pb_gd hf
  obtain ⟨q2, eq2, hf⟩ := Option.bind_eq_some_iff.mp hf
  obtain ⟨hg3, hf⟩ := pb_gd hf
  refine And.intro hg1 (Exists.intro q2 (And.intro eq2 (?_)))
  obtain ⟨r4, cr4, hf⟩ := Option.bind_eq_some_iff.mp hf
  refine And.intro hg3 (And.intro (Nat.le_of_ble_eq_true rfl) (And.intro (Nat.le_of_ble_eq_true rfl) (Exists.intro (some (pb_rv r4)) (Exists.intro _ (And.intro (l_105 cr4) (?_))))))
  cases r4 with
  | none =>
    try dsimp only at hf
    refine hG.1 1 24 kb_149_24 _ _ _ rfl ?_
    cases hf
    exact And.intro rfl rfl
  | some q5 =>
    try dsimp only at hf
    obtain ⟨hg6, hf⟩ := pb_gd hf
    obtain ⟨r7, cr7, hf⟩ := Option.bind_eq_some_iff.mp hf
    refine And.intro hg6 (And.intro (Nat.le_of_ble_eq_true rfl) (And.intro (Nat.le_of_ble_eq_true rfl) (Exists.intro (some (.int r7)) (Exists.intro _ (And.intro (l_3 cr7) (?_))))))
    refine And.intro (fun (hc16 : ¬ r7 = 0) => ?_) (fun (hc16 : ¬ (¬ r7 = 0)) => ?_)
    · rw [if_pos hc16] at hf
      refine hG.1 2 28 kb_149_28 _ _ _ rfl ?_
      obtain ⟨e14, he_e14, hf⟩ := Option.bind_eq_some_iff.mp hf
      refine hG.2 34 _ [2, 3, 4, 5, 6] _ _ _ rfl ?_
      refine hl_34 _ _ _ _ _ _ he_e14 ?_
      refine hG.1 5 74 kb_149_74 _ _ _ rfl ?_
      refine And.intro hg6 (?_)
      obtain ⟨r15, cr15, hf⟩ := Option.bind_eq_some_iff.mp hf
      refine And.intro (Nat.le_of_ble_eq_true rfl) (And.intro (Nat.le_of_ble_eq_true rfl) (And.intro (Nat.le_of_ble_eq_true rfl) (Exists.intro (some (.long r15)) (Exists.intro _ (And.intro (l_165 cr15) (?_))))))
      cases hf
      exact And.intro rfl rfl
    · rw [if_neg hc16] at hf
      refine hG.1 1 24 kb_149_24 _ _ _ rfl ?_
      cases hf
      exact And.intro rfl rfl
/-- PointedBench.unlike -/
def f_150 (N : Nat) (h : pb_HP) (v0 : Nat) (v1 : Int32) (v2 : Int32) (v3 : Int32) : Option (Int32) :=
  if pb_is h v0 10 then ((pb_R h v0 0).bind fun q2 => (if pb_is h q2 7 then ((f_105 h q2 v1).bind fun r4 => (match r4 with | none => (some ((-1))) | some q5 => (if pb_is h q5 0 then ((f_4 h q5 v2).bind fun r7 => (if r7 = 0 then (some ((-1))) else ((f_4 h q5 v3).bind fun r8 => (if ¬ r8 = 0 then ((f_22 N h q5 v2 v3).bind fun r9 => (some r9)) else (some ((-1))))))) else none))) else none)) else none
set_option maxRecDepth 4000 in
theorem l_150 {xs : List Int32} {d : Nat} {N : Nat} {h : pb_HP} {v0 : Nat} {v1 : Int32} {v2 : Int32} {v3 : Int32} {r : Int32} (hf : f_150 N h v0 v1 v2 v3 = some r) : pb_AR xs (d + 3) 150 h [.ref v0, .int v1, .int v2, .int v3] (some (.int r)) h := by
  intro G hG
  have hc_ : pb_CODE 150 = kc_150 := rfl
  rw [hc_] at hG
  unfold f_150 at hf
  refine hG.1 0 0 kb_150_0 _ _ _ rfl ?_
  obtain ⟨hg1, hf⟩ := pb_gd hf
  obtain ⟨q2, eq2, hf⟩ := Option.bind_eq_some_iff.mp hf
  obtain ⟨hg3, hf⟩ := pb_gd hf
  refine And.intro hg1 (Exists.intro q2 (And.intro eq2 (?_)))
  obtain ⟨r4, cr4, hf⟩ := Option.bind_eq_some_iff.mp hf
  refine And.intro hg3 (And.intro (Nat.le_of_ble_eq_true rfl) (And.intro (Nat.le_of_ble_eq_true rfl) (Exists.intro (some (pb_rv r4)) (Exists.intro _ (And.intro (l_105 cr4) (?_))))))
  cases r4 with
  | none =>
    try dsimp only at hf
    refine hG.1 1 33 kb_150_33 _ _ _ rfl ?_
    refine hG.1 3 44 kb_150_44 _ _ _ rfl ?_
    cases hf
    exact And.intro (fun z_ => absurd z_ (by decide)) (And.intro rfl rfl)
  | some q5 =>
    try dsimp only at hf
    obtain ⟨hg6, hf⟩ := pb_gd hf
    obtain ⟨r7, cr7, hf⟩ := Option.bind_eq_some_iff.mp hf
    refine And.intro hg6 (And.intro (Nat.le_of_ble_eq_true rfl) (And.intro (Nat.le_of_ble_eq_true rfl) (Exists.intro (some (.int r7)) (Exists.intro _ (And.intro (l_4 cr7) (?_))))))
    refine And.intro (fun (hc11 : r7 = 0) => ?_) (fun (hc11 : ¬ (r7 = 0)) => ?_)
    · rw [if_pos hc11] at hf
      refine hG.1 1 33 kb_150_33 _ _ _ rfl ?_
      refine hG.1 3 44 kb_150_44 _ _ _ rfl ?_
      cases hf
      exact And.intro (fun z_ => absurd z_ (by decide)) (And.intro rfl rfl)
    · rw [if_neg hc11] at hf
      obtain ⟨r8, cr8, hf⟩ := Option.bind_eq_some_iff.mp hf
      refine And.intro hg6 (And.intro (Nat.le_of_ble_eq_true rfl) (And.intro (Nat.le_of_ble_eq_true rfl) (Exists.intro (some (.int r8)) (Exists.intro _ (And.intro (l_4 cr8) (?_))))))
      refine And.intro (fun (hc10 : ¬ r8 = 0) => ?_) (fun (hc10 : ¬ (¬ r8 = 0)) => ?_)
      · rw [if_pos hc10] at hf
        refine hG.1 2 37 kb_150_37 _ _ _ rfl ?_
        obtain ⟨r9, cr9, hf⟩ := Option.bind_eq_some_iff.mp hf
        refine And.intro hg6 (And.intro (Nat.le_of_ble_eq_true rfl) (And.intro (Nat.le_of_ble_eq_true rfl) (Exists.intro (some (.int r9)) (Exists.intro _ (And.intro (l_22 cr9) (?_))))))
        refine hG.1 3 44 kb_150_44 _ _ _ rfl ?_
        cases hf
        exact And.intro (fun z_ => absurd z_ (by decide)) (And.intro rfl rfl)
      · rw [if_neg hc10] at hf
        refine hG.1 1 33 kb_150_33 _ _ _ rfl ?_
        refine hG.1 3 44 kb_150_44 _ _ _ rfl ?_
        cases hf
        exact And.intro (fun z_ => absurd z_ (by decide)) (And.intro rfl rfl)
/-- PointedBench.image -/
def f_162 (N : Nat) (h : pb_HP) (v0 : Nat) (v1 : Int32) : Option (Int32 × pb_HP) :=
  if v1 < 0 then (some ((0, h))) else (if v1 < 3 then (if pb_is h v0 10 then ((pb_R h v0 1).bind fun q2 => (if pb_ar h q2 17 v1 then ((pb_R h q2 v1.toNatClampNeg).bind fun q4 => ((pb_R h v0 0).bind fun q5 => (if pb_is h q4 7 then ((f_101 N h q4 q5).bind fun h8 => (if pb_is h8 v0 10 then ((pb_R h8 v0 2).bind fun q10 => (if pb_ar h8 q10 14 v1 then (some ((1, pb_pI h8 q10 v1.toNatClampNeg 1))) else none)) else none)) else none))) else none)) else none) else (some ((0, h))))
set_option maxRecDepth 4000 in
theorem l_162 {xs : List Int32} {d : Nat} {N : Nat} {h : pb_HP} {v0 : Nat} {v1 : Int32} {r : Int32} {hE : pb_HP} (hf : f_162 N h v0 v1 = some ((r, hE))) : pb_AR xs (d + 3) 162 h [.ref v0, .int v1] (some (.int r)) hE := by
  intro G hG
  have hc_ : pb_CODE 162 = kc_162 := rfl
  rw [hc_] at hG
  unfold f_162 at hf
  refine hG.1 0 0 kb_162_0 _ _ _ rfl ?_
  refine And.intro (fun (hc13 : v1 < 0) => ?_) (fun (hc13 : ¬ (v1 < 0)) => ?_)
  · rw [if_pos hc13] at hf
    refine hG.1 1 9 kb_162_9 _ _ _ rfl ?_
    cases hf
    exact And.intro (fun _ => Or.inl rfl) (And.intro rfl rfl)
  · rw [if_neg hc13] at hf
    refine And.intro (fun (hc12 : v1 < 3) => ?_) (fun (hc12 : ¬ (v1 < 3)) => ?_)
    · rw [if_pos hc12] at hf
      refine hG.1 2 11 kb_162_11 _ _ _ rfl ?_
      obtain ⟨hg1, hf⟩ := pb_gd hf
      obtain ⟨q2, eq2, hf⟩ := Option.bind_eq_some_iff.mp hf
      obtain ⟨hg3, hf⟩ := pb_gd hf
      obtain ⟨q4, eq4, hf⟩ := Option.bind_eq_some_iff.mp hf
      obtain ⟨q5, eq5, hf⟩ := Option.bind_eq_some_iff.mp hf
      obtain ⟨hg6, hf⟩ := pb_gd hf
      refine And.intro hg1 (Exists.intro q2 (And.intro eq2 (And.intro (And.intro (by decide) (by decide)) (And.intro hg3 (Exists.intro q4 (And.intro eq4 (And.intro hg1 (Exists.intro q5 (And.intro eq5 (?_))))))))))
      obtain ⟨h8, cr7, hf⟩ := Option.bind_eq_some_iff.mp hf
      refine And.intro hg6 (And.intro (Nat.le_of_ble_eq_true rfl) (And.intro (Nat.le_of_ble_eq_true rfl) (Exists.intro none (Exists.intro _ (And.intro (l_101 cr7) (?_))))))
      obtain ⟨hg9, hf⟩ := pb_gd hf
      obtain ⟨q10, eq10, hf⟩ := Option.bind_eq_some_iff.mp hf
      obtain ⟨hg11, hf⟩ := pb_gd hf
      refine And.intro hg9 (Exists.intro q10 (And.intro eq10 (And.intro hg11 (And.intro (Or.inr rfl) (?_)))))
      cases hf
      exact And.intro (fun _ => Or.inr rfl) (And.intro rfl rfl)
    · rw [if_neg hc12] at hf
      refine hG.1 1 9 kb_162_9 _ _ _ rfl ?_
      cases hf
      exact And.intro (fun _ => Or.inl rfl) (And.intro rfl rfl)
/-- PointedBench.again -/
def f_163 (N : Nat) (h : pb_HP) (v0 : Nat) (v1 : Int32) : Option (Int32 × pb_HP) :=
  if v1 < 0 then (some ((0, h))) else (if 3 ≤ v1 then (some ((0, h))) else (if pb_is h v0 10 then ((pb_R h v0 2).bind fun q2 => (if pb_ar h q2 14 v1 then (if ¬ (pb_I h q2 v1.toNatClampNeg) = 0 then ((pb_R h v0 0).bind fun q4 => ((pb_R h v0 1).bind fun q5 => (if pb_ar h q5 17 v1 then ((pb_R h q5 v1.toNatClampNeg).bind fun q7 => (if pb_is h q4 7 then ((f_101 N h q4 q7).bind fun h10 => (some ((1, h10)))) else none)) else none))) else (some ((0, h)))) else none)) else none))
set_option maxRecDepth 4000 in
theorem l_163 {xs : List Int32} {d : Nat} {N : Nat} {h : pb_HP} {v0 : Nat} {v1 : Int32} {r : Int32} {hE : pb_HP} (hf : f_163 N h v0 v1 = some ((r, hE))) : pb_AR xs (d + 3) 163 h [.ref v0, .int v1] (some (.int r)) hE := by
  intro G hG
  have hc_ : pb_CODE 163 = kc_163 := rfl
  rw [hc_] at hG
  unfold f_163 at hf
  refine hG.1 0 0 kb_163_0 _ _ _ rfl ?_
  refine And.intro (fun (hc13 : v1 < 0) => ?_) (fun (hc13 : ¬ (v1 < 0)) => ?_)
  · rw [if_pos hc13] at hf
    refine hG.1 1 18 kb_163_18 _ _ _ rfl ?_
    cases hf
    exact And.intro (fun _ => Or.inl rfl) (And.intro rfl rfl)
  · rw [if_neg hc13] at hf
    refine And.intro (fun (hc12 : 3 ≤ v1) => ?_) (fun (hc12 : ¬ (3 ≤ v1)) => ?_)
    · rw [if_pos hc12] at hf
      refine hG.1 1 18 kb_163_18 _ _ _ rfl ?_
      cases hf
      exact And.intro (fun _ => Or.inl rfl) (And.intro rfl rfl)
    · rw [if_neg hc12] at hf
      obtain ⟨hg1, hf⟩ := pb_gd hf
      obtain ⟨q2, eq2, hf⟩ := Option.bind_eq_some_iff.mp hf
      obtain ⟨hg3, hf⟩ := pb_gd hf
      refine And.intro hg1 (Exists.intro q2 (And.intro eq2 (And.intro hg3 (?_))))
      refine And.intro (fun (hc11 : ¬ (pb_I h q2 v1.toNatClampNeg) = 0) => ?_) (fun (hc11 : ¬ (¬ (pb_I h q2 v1.toNatClampNeg) = 0)) => ?_)
      · rw [if_pos hc11] at hf
        refine hG.1 2 20 kb_163_20 _ _ _ rfl ?_
        obtain ⟨q4, eq4, hf⟩ := Option.bind_eq_some_iff.mp hf
        obtain ⟨q5, eq5, hf⟩ := Option.bind_eq_some_iff.mp hf
        obtain ⟨hg6, hf⟩ := pb_gd hf
        obtain ⟨q7, eq7, hf⟩ := Option.bind_eq_some_iff.mp hf
        obtain ⟨hg8, hf⟩ := pb_gd hf
        refine And.intro hg1 (Exists.intro q4 (And.intro eq4 (And.intro hg1 (Exists.intro q5 (And.intro eq5 (And.intro (And.intro (by decide) (by decide)) (And.intro hg6 (Exists.intro q7 (And.intro eq7 (?_))))))))))
        obtain ⟨h10, cr9, hf⟩ := Option.bind_eq_some_iff.mp hf
        refine And.intro hg8 (And.intro (Nat.le_of_ble_eq_true rfl) (And.intro (Nat.le_of_ble_eq_true rfl) (Exists.intro none (Exists.intro _ (And.intro (l_101 cr9) (?_))))))
        cases hf
        exact And.intro (fun _ => Or.inr rfl) (And.intro rfl rfl)
      · rw [if_neg hc11] at hf
        refine hG.1 1 18 kb_163_18 _ _ _ rfl ?_
        cases hf
        exact And.intro (fun _ => Or.inl rfl) (And.intro rfl rfl)
def f_183_49 (N : Nat) (h : pb_HP) (v0 : Nat) : Option (Int32 × pb_HP) :=
  if pb_is h v0 11 then ((f_180 N h v0).bind fun h7 => (some ((1, h7)))) else none
/-- PointedBenchModel.take -/
def f_183 (N : Nat) (h : pb_HP) (v0 : Nat) (v1 : Int32) (v2 : Int32) (v3 : Int32) : Option (Int32 × pb_HP) :=
  if pb_is h v0 11 then (if (pb_I h v0 12) = 3 then ((pb_R h v0 19).bind fun q2 => (if pb_ar h q2 12 v1 then ((f_168 (pb_I (pb_pI h q2 v1.toNatClampNeg (pb_I h v0 13)) v0 13) v2 v3).bind fun r4 => (if ¬ r4 = 0 then (f_183_49 N (pb_pI h q2 v1.toNatClampNeg (pb_I h v0 13)) v0) else ((f_182 (pb_pI h q2 v1.toNatClampNeg (pb_I h v0 13)) v0 2 (pb_I (pb_pI h q2 v1.toNatClampNeg (pb_I h v0 13)) v0 11)).bind fun h9 => (if pb_is h9 v0 11 then (f_183_49 N (pb_pI h9 v0 22 0) v0) else none)))) else none)) else ((f_181 h v0).bind fun (r12, h13) => (if r12 = 0 ∨ r12 = 1 then (some ((r12, h13))) else none))) else none
set_option maxRecDepth 4000 in
theorem l_183 {xs : List Int32} {d : Nat} {N : Nat} {h : pb_HP} {v0 : Nat} {v1 : Int32} {v2 : Int32} {v3 : Int32} {r : Int32} {hE : pb_HP} (hf : f_183 N h v0 v1 v2 v3 = some ((r, hE))) : pb_AR xs (d + 3) 183 h [.ref v0, .int v1, .int v2, .int v3] (some (.int r)) hE := by
  intro G hG
  have hc_ : pb_CODE 183 = kc_183 := rfl
  rw [hc_] at hG
  have hj_49 : ∀ (h : pb_HP) (v0 : Nat), f_183_49 N h v0 = some ((r, hE)) → G 49 [(0, .ref v0)] [] h := by
    intro h v0 hf
    unfold f_183_49 at hf
    refine hG.1 2 49 kb_183_49 _ _ _ rfl ?_
    obtain ⟨hg5, hf⟩ := pb_gd hf
    obtain ⟨h7, cr6, hf⟩ := Option.bind_eq_some_iff.mp hf
    refine And.intro hg5 (And.intro (Nat.le_of_ble_eq_true rfl) (And.intro (Nat.le_of_ble_eq_true rfl) (Exists.intro none (Exists.intro _ (And.intro (l_180 cr6) (?_))))))
    cases hf
    exact And.intro (fun _ => Or.inr rfl) (And.intro rfl rfl)
  unfold f_183 at hf
  refine hG.1 0 0 kb_183_0 _ _ _ rfl ?_
  obtain ⟨hg1, hf⟩ := pb_gd hf
  refine And.intro hg1 (?_)
  refine And.intro (fun (hc15 : (pb_I h v0 12) = 3) => ?_) (fun (hc15 : ¬ ((pb_I h v0 12) = 3)) => ?_)
  · rw [if_pos hc15] at hf
    refine hG.1 1 13 kb_183_13 _ _ _ rfl ?_
    obtain ⟨q2, eq2, hf⟩ := Option.bind_eq_some_iff.mp hf
    obtain ⟨hg3, hf⟩ := pb_gd hf
    refine And.intro hg1 (Exists.intro q2 (And.intro eq2 (And.intro hg1 (And.intro hg3 (And.intro hg1 (?_))))))
    obtain ⟨r4, cr4, hf⟩ := Option.bind_eq_some_iff.mp hf
    refine And.intro (Nat.le_of_ble_eq_true rfl) (And.intro (Nat.le_of_ble_eq_true rfl) (And.intro (Nat.le_of_ble_eq_true rfl) (Exists.intro (some (.int r4)) (Exists.intro _ (And.intro (l_168 cr4) (?_))))))
    refine And.intro (fun (hc11 : ¬ r4 = 0) => ?_) (fun (hc11 : ¬ (¬ r4 = 0)) => ?_)
    · rw [if_pos hc11] at hf
      refine hG.2 49 _ [0] _ _ _ rfl ?_
      exact hj_49 _ _ hf
    · rw [if_neg hc11] at hf
      refine And.intro hg1 (?_)
      obtain ⟨h9, cr8, hf⟩ := Option.bind_eq_some_iff.mp hf
      refine And.intro hg1 (And.intro (Nat.le_of_ble_eq_true rfl) (And.intro (Nat.le_of_ble_eq_true rfl) (Exists.intro none (Exists.intro _ (And.intro (l_182 cr8) (?_))))))
      obtain ⟨hg10, hf⟩ := pb_gd hf
      refine And.intro hg10 (And.intro (Or.inl rfl) (?_))
      refine hG.2 49 _ [0] _ _ _ rfl ?_
      exact hj_49 _ _ hf
  · rw [if_neg hc15] at hf
    obtain ⟨⟨r12, h13⟩, cr12, hf⟩ := Option.bind_eq_some_iff.mp hf
    try dsimp only at hf
    refine And.intro hg1 (And.intro (Nat.le_of_ble_eq_true rfl) (And.intro (Nat.le_of_ble_eq_true rfl) (Exists.intro (some (.int r12)) (Exists.intro _ (And.intro (l_181 cr12) (?_))))))
    obtain ⟨hg14, hf⟩ := pb_gd hf
    cases hf
    exact And.intro (fun _ => hg14) (And.intro rfl rfl)
/-- PointedBenchModel.hand -/
def f_198 (N : Nat) (h : pb_HP) (v0 : Nat) (v1 : Int32) : Option (Int32 × pb_HP) :=
  if pb_is h v0 11 then ((f_175 h v0 0 v1).bind fun r2 => (if ¬ r2 = 0 then ((f_197 (pb_pI h v0 23 v1) v0 0).bind fun r3 => ((f_197 (pb_pI (pb_pI h v0 23 v1) v0 24 r3) v0 1).bind fun r4 => ((f_199 N (pb_pI (pb_pI (pb_pI (pb_pI (pb_pI (pb_pI (pb_pI h v0 23 v1) v0 24 r3) v0 25 r4) v0 26 0) v0 27 6) v0 28 0) v0 29 0) v0).bind fun h6 => (some ((1, h6)))))) else (some ((0, h))))) else none
set_option maxRecDepth 4000 in
theorem l_198 {xs : List Int32} {d : Nat} {N : Nat} {h : pb_HP} {v0 : Nat} {v1 : Int32} {r : Int32} {hE : pb_HP} (hf : f_198 N h v0 v1 = some ((r, hE))) : pb_AR xs (d + 3) 198 h [.ref v0, .int v1] (some (.int r)) hE := by
  intro G hG
  have hc_ : pb_CODE 198 = kc_198 := rfl
  rw [hc_] at hG
  unfold f_198 at hf
  refine hG.1 0 0 kb_198_0 _ _ _ rfl ?_
  obtain ⟨hg1, hf⟩ := pb_gd hf
  obtain ⟨r2, cr2, hf⟩ := Option.bind_eq_some_iff.mp hf
  refine And.intro hg1 (And.intro (Nat.le_of_ble_eq_true rfl) (And.intro (Nat.le_of_ble_eq_true rfl) (Exists.intro (some (.int r2)) (Exists.intro _ (And.intro (l_175 cr2) (?_))))))
  refine And.intro (fun (hc7 : ¬ r2 = 0) => ?_) (fun (hc7 : ¬ (¬ r2 = 0)) => ?_)
  · rw [if_pos hc7] at hf
    refine hG.1 1 11 kb_198_11 _ _ _ rfl ?_
    refine And.intro hg1 (?_)
    obtain ⟨r3, cr3, hf⟩ := Option.bind_eq_some_iff.mp hf
    refine And.intro hg1 (And.intro (Nat.le_of_ble_eq_true rfl) (And.intro (Nat.le_of_ble_eq_true rfl) (Exists.intro (some (.int r3)) (Exists.intro _ (And.intro (l_197 cr3) (?_))))))
    refine And.intro hg1 (?_)
    obtain ⟨r4, cr4, hf⟩ := Option.bind_eq_some_iff.mp hf
    refine And.intro hg1 (And.intro (Nat.le_of_ble_eq_true rfl) (And.intro (Nat.le_of_ble_eq_true rfl) (Exists.intro (some (.int r4)) (Exists.intro _ (And.intro (l_197 cr4) (?_))))))
    refine And.intro hg1 (And.intro hg1 (And.intro hg1 (And.intro hg1 (And.intro hg1 (?_)))))
    obtain ⟨h6, cr5, hf⟩ := Option.bind_eq_some_iff.mp hf
    refine And.intro hg1 (And.intro (Nat.le_of_ble_eq_true rfl) (And.intro (Nat.le_of_ble_eq_true rfl) (Exists.intro none (Exists.intro _ (And.intro (l_199 cr5) (?_))))))
    cases hf
    exact And.intro (fun _ => Or.inr rfl) (And.intro rfl rfl)
  · rw [if_neg hc7] at hf
    cases hf
    exact And.intro (fun _ => Or.inl rfl) (And.intro rfl rfl)
def f_206_52 (N : Nat) (h : pb_HP) (v0 : Nat) (v1 : Int32) (v2 : Int32) (v3 : Int32) (v4 : Int32) (s0 : Int32) : Option ((Int32 × Int32) ⊕ (Int32)) :=
  (f_169 v2 v4).bind fun r2 => (if r2 = 0 then (some (.inl ((v3, v4 + 1)))) else (if pb_is h v0 11 then ((f_205 h v0 v1 v4).bind fun r4 => (if ¬ r4 = 0 then (some (.inl ((v3, v4 + 1)))) else (if s0 = 0 then (some (.inl ((v3, v4 + 1)))) else (some (.inl ((v4, v4 + 1))))))) else none))
def f_206_6s (N : Nat) (h : pb_HP) (v0 : Nat) (v1 : Int32) (v2 : Int32) (s : Int32 × Int32) : Option ((Int32 × Int32) ⊕ (Int32)) :=
  if pb_is h v0 11 then (if (pb_I h v0 24) ≤ s.2 then (some (.inr s.1)) else (if s.1 = 6 then (f_206_52 N h v0 v1 v2 s.1 s.2 1) else ((pb_R h v0 30).bind fun q8 => (if pb_ar h q8 12 s.2 then ((f_204 N h v0 v1 (pb_I h q8 s.2.toNatClampNeg)).bind fun r10 => (if pb_ar h q8 12 s.1 then ((f_204 N h v0 v1 (pb_I h q8 s.1.toNatClampNeg)).bind fun r12 => (if r10 ≤ r12 then (f_206_52 N h v0 v1 v2 s.1 s.2 0) else (f_206_52 N h v0 v1 v2 s.1 s.2 1))) else none)) else none)))) else none
/-- PointedBenchModel.pointsOf -/
def f_206 (N : Nat) (h : pb_HP) (v0 : Nat) (v1 : Int32) (v2 : Int32) : Option (Int32) :=
  (pb_wl (f_206_6s N h v0 v1 v2) N ((6, 0))).bind fun e16 => (some e16)
set_option maxRecDepth 4000 in
theorem l_206 {xs : List Int32} {d : Nat} {N : Nat} {h : pb_HP} {v0 : Nat} {v1 : Int32} {v2 : Int32} {r : Int32} (hf : f_206 N h v0 v1 v2 = some r) : pb_AR xs (d + 3) 206 h [.ref v0, .int v1, .int v2] (some (.int r)) h := by
  intro G hG
  have hc_ : pb_CODE 206 = kc_206 := rfl
  rw [hc_] at hG
  have hj_52 : ∀ (v0 : Nat) (v1 : Int32) (v2 : Int32) (v3 : Int32) (v4 : Int32) (s0 : Int32) x, f_206_52 N h v0 v1 v2 v3 v4 s0 = some x → pb_kk (fun (s_ : Int32 × Int32) => G 6 [(0, .ref v0), (1, .int v1), (2, .int v2), (3, .int s_.1), (4, .int s_.2)] [] h) (fun (e_ : Int32) => G 91 [(3, .int e_)] [] h) x → G 52 [(0, .ref v0), (1, .int v1), (2, .int v2), (3, .int v3), (4, .int v4)] [.int s0] h := by
    intro v0 v1 v2 v3 v4 s0 x hf hk
    unfold f_206_52 at hf
    refine hG.1 4 52 kb_206_52 _ _ _ rfl ?_
    obtain ⟨r2, cr2, hf⟩ := Option.bind_eq_some_iff.mp hf
    refine And.intro (Nat.le_of_ble_eq_true rfl) (And.intro (Nat.le_of_ble_eq_true rfl) (And.intro (Nat.le_of_ble_eq_true rfl) (Exists.intro (some (.int r2)) (Exists.intro _ (And.intro (l_169 cr2) (?_))))))
    refine And.intro (fun (hc7 : r2 = 0) => ?_) (fun (hc7 : ¬ (r2 = 0)) => ?_)
    · rw [if_pos hc7] at hf
      refine hG.1 5 83 kb_206_83 _ _ _ rfl ?_
      refine hG.1 6 84 kb_206_84 _ _ _ rfl ?_
      cases hf
      exact hG.2 6 _ [0, 1, 2, 3, 4] _ _ _ rfl hk
    · rw [if_neg hc7] at hf
      obtain ⟨hg3, hf⟩ := pb_gd hf
      obtain ⟨r4, cr4, hf⟩ := Option.bind_eq_some_iff.mp hf
      refine And.intro hg3 (And.intro (Nat.le_of_ble_eq_true rfl) (And.intro (Nat.le_of_ble_eq_true rfl) (Exists.intro (some (.int r4)) (Exists.intro _ (And.intro (l_205 cr4) (?_))))))
      refine And.intro (fun (hc6 : ¬ r4 = 0) => ?_) (fun (hc6 : ¬ (¬ r4 = 0)) => ?_)
      · rw [if_pos hc6] at hf
        refine hG.1 5 83 kb_206_83 _ _ _ rfl ?_
        refine hG.1 6 84 kb_206_84 _ _ _ rfl ?_
        cases hf
        exact hG.2 6 _ [0, 1, 2, 3, 4] _ _ _ rfl hk
      · rw [if_neg hc6] at hf
        refine And.intro (fun (hc5 : s0 = 0) => ?_) (fun (hc5 : ¬ (s0 = 0)) => ?_)
        · rw [if_pos hc5] at hf
          refine hG.1 5 83 kb_206_83 _ _ _ rfl ?_
          refine hG.1 6 84 kb_206_84 _ _ _ rfl ?_
          cases hf
          exact hG.2 6 _ [0, 1, 2, 3, 4] _ _ _ rfl hk
        · rw [if_neg hc5] at hf
          refine hG.1 6 84 kb_206_84 _ _ _ rfl ?_
          cases hf
          exact hG.2 6 _ [0, 1, 2, 3, 4] _ _ _ rfl hk
  have hl_6 : ∀ (v0 : Nat) (v1 : Int32) (v2 : Int32) (n_ : Nat) (s : Int32 × Int32) (e : Int32), pb_wl (f_206_6s N h v0 v1 v2) n_ s = some e → G 91 [(3, .int e)] [] h → G 6 [(0, .ref v0), (1, .int v1), (2, .int v2), (3, .int s.1), (4, .int s.2)] [] h := by
    intro v0 v1 v2
    refine pb_wl_ind (I := fun (s : Int32 × Int32) => G 6 [(0, .ref v0), (1, .int v1), (2, .int v2), (3, .int s.1), (4, .int s.2)] [] h) (K := fun (e : Int32) => G 91 [(3, .int e)] [] h) (fun s x hf hk => ?_)
    unfold f_206_6s at hf
    refine hG.1 1 6 kb_206_6 _ _ _ rfl ?_
    obtain ⟨hg1, hf⟩ := pb_gd hf
    refine And.intro hg1 (?_)
    refine And.intro (fun (hc15 : (pb_I h v0 24) ≤ s.2) => ?_) (fun (hc15 : ¬ ((pb_I h v0 24) ≤ s.2)) => ?_)
    · rw [if_pos hc15] at hf
      cases hf
      exact hG.2 91 _ [3] _ _ _ rfl hk
    · rw [if_neg hc15] at hf
      refine And.intro (fun (hc14 : s.1 = 6) => ?_) (fun (hc14 : ¬ (s.1 = 6)) => ?_)
      · rw [if_pos hc14] at hf
        refine hG.1 2 47 kb_206_47 _ _ _ rfl ?_
        exact hj_52 _ _ _ _ _ _ _ hf hk
      · rw [if_neg hc14] at hf
        obtain ⟨q8, eq8, hf⟩ := Option.bind_eq_some_iff.mp hf
        obtain ⟨hg9, hf⟩ := pb_gd hf
        refine And.intro hg1 (Exists.intro q8 (And.intro eq8 (And.intro hg9 (?_))))
        obtain ⟨r10, cr10, hf⟩ := Option.bind_eq_some_iff.mp hf
        refine And.intro hg1 (And.intro (Nat.le_of_ble_eq_true rfl) (And.intro (Nat.le_of_ble_eq_true rfl) (Exists.intro (some (.int r10)) (Exists.intro _ (And.intro (l_204 cr10) (?_))))))
        obtain ⟨hg11, hf⟩ := pb_gd hf
        refine And.intro hg1 (Exists.intro q8 (And.intro eq8 (And.intro hg11 (?_))))
        obtain ⟨r12, cr12, hf⟩ := Option.bind_eq_some_iff.mp hf
        refine And.intro hg1 (And.intro (Nat.le_of_ble_eq_true rfl) (And.intro (Nat.le_of_ble_eq_true rfl) (Exists.intro (some (.int r12)) (Exists.intro _ (And.intro (l_204 cr12) (?_))))))
        refine And.intro (fun (hc13 : r10 ≤ r12) => ?_) (fun (hc13 : ¬ (r10 ≤ r12)) => ?_)
        · rw [if_pos hc13] at hf
          refine hG.1 3 51 kb_206_51 _ _ _ rfl ?_
          exact hj_52 _ _ _ _ _ _ _ hf hk
        · rw [if_neg hc13] at hf
          refine hG.1 2 47 kb_206_47 _ _ _ rfl ?_
          exact hj_52 _ _ _ _ _ _ _ hf hk
  unfold f_206 at hf
  refine hG.1 0 0 kb_206_0 _ _ _ rfl ?_
  obtain ⟨e16, he_e16, hf⟩ := Option.bind_eq_some_iff.mp hf
  refine hl_6 _ _ _ _ _ _ he_e16 ?_
  refine hG.1 7 91 kb_206_91 _ _ _ rfl ?_
  cases hf
  exact And.intro (fun z_ => absurd z_ (by decide)) (And.intro rfl rfl)
/-- PointedBenchModel.hasYear -/
def f_214 (h : pb_HP) (v0 : Nat) (v1 : Int32) : Option (Int32 × pb_HP) :=
  if pb_is h v0 11 then ((f_175 (pb_pI h v0 36 v1) v0 1 v1).bind fun r2 => (if r2 = 0 ∨ r2 = 1 then (some ((r2, pb_pI h v0 36 v1))) else none)) else none
set_option maxRecDepth 4000 in
theorem l_214 {xs : List Int32} {d : Nat} {h : pb_HP} {v0 : Nat} {v1 : Int32} {r : Int32} {hE : pb_HP} (hf : f_214 h v0 v1 = some ((r, hE))) : pb_AR xs (d + 3) 214 h [.ref v0, .int v1] (some (.int r)) hE := by
  intro G hG
  have hc_ : pb_CODE 214 = kc_214 := rfl
  rw [hc_] at hG
  unfold f_214 at hf
  refine hG.1 0 0 kb_214_0 _ _ _ rfl ?_
  obtain ⟨hg1, hf⟩ := pb_gd hf
  refine And.intro hg1 (?_)
  obtain ⟨r2, cr2, hf⟩ := Option.bind_eq_some_iff.mp hf
  refine And.intro hg1 (And.intro (Nat.le_of_ble_eq_true rfl) (And.intro (Nat.le_of_ble_eq_true rfl) (Exists.intro (some (.int r2)) (Exists.intro _ (And.intro (l_175 cr2) (?_))))))
  obtain ⟨hg3, hf⟩ := pb_gd hf
  cases hf
  exact And.intro (fun _ => hg3) (And.intro rfl rfl)
def f_218_44 (h : pb_HP) (s0 : Int32) (s1 : Int32) (s2 : Nat) : Option (Int32 × pb_HP) :=
  if pb_ar h s2 12 s1 then (some ((1, pb_pI h s2 s1.toNatClampNeg s0))) else none
/-- PointedBenchModel.doesMan -/
def f_218 (h : pb_HP) (v0 : Nat) (v1 : Int32) (v2 : Int32) (v3 : Int32) : Option (Int32 × pb_HP) :=
  if pb_is h v0 11 then ((f_200 h v0 v2).bind fun r2 => (if ¬ r2 = 0 then ((pb_R h v0 30).bind fun q3 => (if ¬ v1 = 0 then (if pb_ar h q3 12 v2 then (f_218_44 h ((pb_I h q3 v2.toNatClampNeg) &&& (((1 : Int32) <<< (v3 &&& 31)) ^^^ ((-1)))) v2 q3) else none) else (if pb_ar h q3 12 v2 then (f_218_44 h ((pb_I h q3 v2.toNatClampNeg) ||| ((1 : Int32) <<< (v3 &&& 31))) v2 q3) else none))) else (some ((0, h))))) else none
set_option maxRecDepth 4000 in
theorem l_218 {xs : List Int32} {d : Nat} {h : pb_HP} {v0 : Nat} {v1 : Int32} {v2 : Int32} {v3 : Int32} {r : Int32} {hE : pb_HP} (hf : f_218 h v0 v1 v2 v3 = some ((r, hE))) : pb_AR xs (d + 3) 218 h [.ref v0, .int v1, .int v2, .int v3] (some (.int r)) hE := by
  intro G hG
  have hc_ : pb_CODE 218 = kc_218 := rfl
  rw [hc_] at hG
  have hj_44 : ∀ (h : pb_HP) (s0 : Int32) (s1 : Int32) (s2 : Nat), f_218_44 h s0 s1 s2 = some ((r, hE)) → G 44 [] [.int s0, .int s1, .ref s2] h := by
    intro h s0 s1 s2 hf
    unfold f_218_44 at hf
    refine hG.1 3 44 kb_218_44 _ _ _ rfl ?_
    obtain ⟨hg5, hf⟩ := pb_gd hf
    refine And.intro hg5 (?_)
    cases hf
    exact And.intro (fun _ => Or.inr rfl) (And.intro rfl rfl)
  unfold f_218 at hf
  refine hG.1 0 0 kb_218_0 _ _ _ rfl ?_
  obtain ⟨hg1, hf⟩ := pb_gd hf
  obtain ⟨r2, cr2, hf⟩ := Option.bind_eq_some_iff.mp hf
  refine And.intro hg1 (And.intro (Nat.le_of_ble_eq_true rfl) (And.intro (Nat.le_of_ble_eq_true rfl) (Exists.intro (some (.int r2)) (Exists.intro _ (And.intro (l_200 cr2) (?_))))))
  refine And.intro (fun (hc8 : ¬ r2 = 0) => ?_) (fun (hc8 : ¬ (¬ r2 = 0)) => ?_)
  · rw [if_pos hc8] at hf
    refine hG.1 1 10 kb_218_10 _ _ _ rfl ?_
    obtain ⟨q3, eq3, hf⟩ := Option.bind_eq_some_iff.mp hf
    refine And.intro hg1 (Exists.intro q3 (And.intro eq3 (?_)))
    refine And.intro (fun (hc7 : ¬ v1 = 0) => ?_) (fun (hc7 : ¬ (¬ v1 = 0)) => ?_)
    · rw [if_pos hc7] at hf
      refine hG.1 2 32 kb_218_32 _ _ _ rfl ?_
      obtain ⟨hg4, hf⟩ := pb_gd hf
      refine And.intro hg1 (Exists.intro q3 (And.intro eq3 (And.intro hg4 (?_))))
      refine hG.2 44 _ [] _ _ _ rfl ?_
      exact hj_44 _ _ _ _ hf
    · rw [if_neg hc7] at hf
      obtain ⟨hg6, hf⟩ := pb_gd hf
      refine And.intro hg1 (Exists.intro q3 (And.intro eq3 (And.intro hg6 (?_))))
      refine hG.2 44 _ [] _ _ _ rfl ?_
      exact hj_44 _ _ _ _ hf
  · rw [if_neg hc8] at hf
    cases hf
    exact And.intro (fun _ => Or.inl rfl) (And.intro rfl rfl)
/-- PointedBenchModel.doesChild -/
def f_219 (h : pb_HP) (v0 : Nat) (v1 : Int32) (v2 : Int32) (v3 : Int32) (v4 : Int32) : Option (Int32 × pb_HP) :=
  if pb_is h v0 11 then ((f_201 h v0 v2).bind fun r2 => (if ¬ r2 = 0 then (if ¬ v1 = 4 then (if ¬ v1 = 2 then ((pb_R h v0 34).bind fun q3 => (if pb_ar h q3 12 ((6 * v2) + v3) then ((f_171 9 ((pb_I h q3 ((6 * v2) + v3).toNatClampNeg) + v4)).bind fun r5 => (some ((1, pb_pI h q3 ((6 * v2) + v3).toNatClampNeg r5)))) else none)) else ((pb_R h v0 33).bind fun q6 => (if pb_ar h q6 12 v2 then (some ((1, pb_pI h q6 v2.toNatClampNeg ((pb_I h q6 v2.toNatClampNeg) ||| ((1 : Int32) <<< (v3 &&& 31)))))) else none))) else ((f_216 h v0 v2).bind fun (r9, h10) => (if r9 = 0 ∨ r9 = 1 then (some ((r9, h10))) else none))) else (some ((0, h))))) else none
set_option maxRecDepth 4000 in
theorem l_219 {xs : List Int32} {d : Nat} {h : pb_HP} {v0 : Nat} {v1 : Int32} {v2 : Int32} {v3 : Int32} {v4 : Int32} {r : Int32} {hE : pb_HP} (hf : f_219 h v0 v1 v2 v3 v4 = some ((r, hE))) : pb_AR xs (d + 3) 219 h [.ref v0, .int v1, .int v2, .int v3, .int v4] (some (.int r)) hE := by
  intro G hG
  have hc_ : pb_CODE 219 = kc_219 := rfl
  rw [hc_] at hG
  unfold f_219 at hf
  refine hG.1 0 0 kb_219_0 _ _ _ rfl ?_
  obtain ⟨hg1, hf⟩ := pb_gd hf
  obtain ⟨r2, cr2, hf⟩ := Option.bind_eq_some_iff.mp hf
  refine And.intro hg1 (And.intro (Nat.le_of_ble_eq_true rfl) (And.intro (Nat.le_of_ble_eq_true rfl) (Exists.intro (some (.int r2)) (Exists.intro _ (And.intro (l_201 cr2) (?_))))))
  refine And.intro (fun (hc13 : ¬ r2 = 0) => ?_) (fun (hc13 : ¬ (¬ r2 = 0)) => ?_)
  · rw [if_pos hc13] at hf
    refine hG.1 1 10 kb_219_10 _ _ _ rfl ?_
    refine And.intro (fun (hc12 : ¬ v1 = 4) => ?_) (fun (hc12 : ¬ (¬ v1 = 4)) => ?_)
    · rw [if_pos hc12] at hf
      refine hG.1 2 21 kb_219_21 _ _ _ rfl ?_
      refine And.intro (fun (hc8 : ¬ v1 = 2) => ?_) (fun (hc8 : ¬ (¬ v1 = 2)) => ?_)
      · rw [if_pos hc8] at hf
        refine hG.1 3 41 kb_219_41 _ _ _ rfl ?_
        obtain ⟨q3, eq3, hf⟩ := Option.bind_eq_some_iff.mp hf
        obtain ⟨hg4, hf⟩ := pb_gd hf
        refine And.intro hg1 (Exists.intro q3 (And.intro eq3 (And.intro hg1 (Exists.intro q3 (And.intro eq3 (And.intro hg4 (?_)))))))
        obtain ⟨r5, cr5, hf⟩ := Option.bind_eq_some_iff.mp hf
        refine And.intro (Nat.le_of_ble_eq_true rfl) (And.intro (Nat.le_of_ble_eq_true rfl) (And.intro (Nat.le_of_ble_eq_true rfl) (Exists.intro (some (.int r5)) (Exists.intro _ (And.intro (l_171 cr5) (?_))))))
        refine And.intro hg4 (?_)
        refine hG.1 4 71 kb_219_71 _ _ _ rfl ?_
        cases hf
        exact And.intro (fun _ => Or.inr rfl) (And.intro rfl rfl)
      · rw [if_neg hc8] at hf
        obtain ⟨q6, eq6, hf⟩ := Option.bind_eq_some_iff.mp hf
        obtain ⟨hg7, hf⟩ := pb_gd hf
        refine And.intro hg1 (Exists.intro q6 (And.intro eq6 (And.intro hg7 (And.intro hg7 (?_)))))
        refine hG.1 4 71 kb_219_71 _ _ _ rfl ?_
        cases hf
        exact And.intro (fun _ => Or.inr rfl) (And.intro rfl rfl)
    · rw [if_neg hc12] at hf
      obtain ⟨⟨r9, h10⟩, cr9, hf⟩ := Option.bind_eq_some_iff.mp hf
      try dsimp only at hf
      refine And.intro hg1 (And.intro (Nat.le_of_ble_eq_true rfl) (And.intro (Nat.le_of_ble_eq_true rfl) (Exists.intro (some (.int r9)) (Exists.intro _ (And.intro (l_216 cr9) (?_))))))
      obtain ⟨hg11, hf⟩ := pb_gd hf
      cases hf
      exact And.intro (fun _ => hg11) (And.intro rfl rfl)
  · rw [if_neg hc13] at hf
    cases hf
    exact And.intro (fun _ => Or.inl rfl) (And.intro rfl rfl)
/-- PointedBenchModel.hasLog -/
def f_245 (h : pb_HP) (v0 : Nat) (v1 : Int32) : Option (Int32 × pb_HP) :=
  if pb_is h v0 11 then ((f_175 (pb_pI h v0 39 v1) v0 2 v1).bind fun r2 => (if r2 = 0 ∨ r2 = 1 then (some ((r2, pb_pI h v0 39 v1))) else none)) else none
set_option maxRecDepth 4000 in
theorem l_245 {xs : List Int32} {d : Nat} {h : pb_HP} {v0 : Nat} {v1 : Int32} {r : Int32} {hE : pb_HP} (hf : f_245 h v0 v1 = some ((r, hE))) : pb_AR xs (d + 3) 245 h [.ref v0, .int v1] (some (.int r)) hE := by
  intro G hG
  have hc_ : pb_CODE 245 = kc_245 := rfl
  rw [hc_] at hG
  unfold f_245 at hf
  refine hG.1 0 0 kb_245_0 _ _ _ rfl ?_
  obtain ⟨hg1, hf⟩ := pb_gd hf
  refine And.intro hg1 (?_)
  obtain ⟨r2, cr2, hf⟩ := Option.bind_eq_some_iff.mp hf
  refine And.intro hg1 (And.intro (Nat.le_of_ble_eq_true rfl) (And.intro (Nat.le_of_ble_eq_true rfl) (Exists.intro (some (.int r2)) (Exists.intro _ (And.intro (l_175 cr2) (?_))))))
  obtain ⟨hg3, hf⟩ := pb_gd hf
  cases hf
  exact And.intro (fun _ => hg3) (And.intro rfl rfl)
/-- PointedBenchModel.prefers -/
def f_249 (N : Nat) (v0 : Int32) (v1 : Int32) (v2 : Int32) : Option (Int32) :=
  (f_248 N v0 v1).bind fun r1 => ((f_248 N v0 v2).bind fun r2 => (if r1 ≤ r2 then (some 0) else (some 1)))
set_option maxRecDepth 4000 in
theorem l_249 {xs : List Int32} {d : Nat} {N : Nat} {h : pb_HP} {v0 : Int32} {v1 : Int32} {v2 : Int32} {r : Int32} (hf : f_249 N v0 v1 v2 = some r) : pb_AR xs (d + 3) 249 h [.int v0, .int v1, .int v2] (some (.int r)) h := by
  intro G hG
  have hc_ : pb_CODE 249 = kc_249 := rfl
  rw [hc_] at hG
  unfold f_249 at hf
  refine hG.1 0 0 kb_249_0 _ _ _ rfl ?_
  obtain ⟨r1, cr1, hf⟩ := Option.bind_eq_some_iff.mp hf
  refine And.intro (Nat.le_of_ble_eq_true rfl) (And.intro (Nat.le_of_ble_eq_true rfl) (And.intro (Nat.le_of_ble_eq_true rfl) (Exists.intro (some (.int r1)) (Exists.intro _ (And.intro (l_248 cr1) (?_))))))
  obtain ⟨r2, cr2, hf⟩ := Option.bind_eq_some_iff.mp hf
  refine And.intro (Nat.le_of_ble_eq_true rfl) (And.intro (Nat.le_of_ble_eq_true rfl) (And.intro (Nat.le_of_ble_eq_true rfl) (Exists.intro (some (.int r2)) (Exists.intro _ (And.intro (l_248 cr2) (?_))))))
  refine And.intro (fun (hc3 : r1 ≤ r2) => ?_) (fun (hc3 : ¬ (r1 ≤ r2)) => ?_)
  · rw [if_pos hc3] at hf
    refine hG.1 1 17 kb_249_17 _ _ _ rfl ?_
    refine hG.1 2 18 kb_249_18 _ _ _ rfl ?_
    cases hf
    exact And.intro (fun _ => Or.inl rfl) (And.intro rfl rfl)
  · rw [if_neg hc3] at hf
    refine hG.1 2 18 kb_249_18 _ _ _ rfl ?_
    cases hf
    exact And.intro (fun _ => Or.inr rfl) (And.intro rfl rfl)
/-- PointedBenchModel.puts -/
def f_259 (N : Nat) (h : pb_HP) (v0 : Nat) (v1 : Int32) (v2 : Int32) (v3 : Int32) : Option (Int32) :=
  if pb_is h v0 11 then ((f_205 h v0 v1 v2).bind fun r2 => (if ¬ r2 = 0 then (some 0) else ((f_205 h v0 v1 v3).bind fun r3 => (if ¬ r3 = 0 then (some 1) else ((pb_R h v0 30).bind fun q4 => (if pb_ar h q4 12 v2 then ((f_204 N h v0 v1 (pb_I h q4 v2.toNatClampNeg)).bind fun r6 => (if pb_ar h q4 12 v3 then ((f_204 N h v0 v1 (pb_I h q4 v3.toNatClampNeg)).bind fun r8 => (if r6 ≤ r8 then (some 0) else (some 1))) else none)) else none)))))) else none
set_option maxRecDepth 4000 in
theorem l_259 {xs : List Int32} {d : Nat} {N : Nat} {h : pb_HP} {v0 : Nat} {v1 : Int32} {v2 : Int32} {v3 : Int32} {r : Int32} (hf : f_259 N h v0 v1 v2 v3 = some r) : pb_AR xs (d + 3) 259 h [.ref v0, .int v1, .int v2, .int v3] (some (.int r)) h := by
  intro G hG
  have hc_ : pb_CODE 259 = kc_259 := rfl
  rw [hc_] at hG
  unfold f_259 at hf
  refine hG.1 0 0 kb_259_0 _ _ _ rfl ?_
  obtain ⟨hg1, hf⟩ := pb_gd hf
  obtain ⟨r2, cr2, hf⟩ := Option.bind_eq_some_iff.mp hf
  refine And.intro hg1 (And.intro (Nat.le_of_ble_eq_true rfl) (And.intro (Nat.le_of_ble_eq_true rfl) (Exists.intro (some (.int r2)) (Exists.intro _ (And.intro (l_205 cr2) (?_))))))
  refine And.intro (fun (hc11 : ¬ r2 = 0) => ?_) (fun (hc11 : ¬ (¬ r2 = 0)) => ?_)
  · rw [if_pos hc11] at hf
    refine hG.1 2 47 kb_259_47 _ _ _ rfl ?_
    refine hG.1 3 48 kb_259_48 _ _ _ rfl ?_
    cases hf
    exact And.intro (fun _ => Or.inl rfl) (And.intro rfl rfl)
  · rw [if_neg hc11] at hf
    obtain ⟨r3, cr3, hf⟩ := Option.bind_eq_some_iff.mp hf
    refine And.intro hg1 (And.intro (Nat.le_of_ble_eq_true rfl) (And.intro (Nat.le_of_ble_eq_true rfl) (Exists.intro (some (.int r3)) (Exists.intro _ (And.intro (l_205 cr3) (?_))))))
    refine And.intro (fun (hc10 : ¬ r3 = 0) => ?_) (fun (hc10 : ¬ (¬ r3 = 0)) => ?_)
    · rw [if_pos hc10] at hf
      refine hG.1 1 43 kb_259_43 _ _ _ rfl ?_
      refine hG.1 3 48 kb_259_48 _ _ _ rfl ?_
      cases hf
      exact And.intro (fun _ => Or.inr rfl) (And.intro rfl rfl)
    · rw [if_neg hc10] at hf
      obtain ⟨q4, eq4, hf⟩ := Option.bind_eq_some_iff.mp hf
      obtain ⟨hg5, hf⟩ := pb_gd hf
      refine And.intro hg1 (Exists.intro q4 (And.intro eq4 (And.intro hg5 (?_))))
      obtain ⟨r6, cr6, hf⟩ := Option.bind_eq_some_iff.mp hf
      refine And.intro hg1 (And.intro (Nat.le_of_ble_eq_true rfl) (And.intro (Nat.le_of_ble_eq_true rfl) (Exists.intro (some (.int r6)) (Exists.intro _ (And.intro (l_204 cr6) (?_))))))
      obtain ⟨hg7, hf⟩ := pb_gd hf
      refine And.intro hg1 (Exists.intro q4 (And.intro eq4 (And.intro hg7 (?_))))
      obtain ⟨r8, cr8, hf⟩ := Option.bind_eq_some_iff.mp hf
      refine And.intro hg1 (And.intro (Nat.le_of_ble_eq_true rfl) (And.intro (Nat.le_of_ble_eq_true rfl) (Exists.intro (some (.int r8)) (Exists.intro _ (And.intro (l_204 cr8) (?_))))))
      refine And.intro (fun (hc9 : r6 ≤ r8) => ?_) (fun (hc9 : ¬ (r6 ≤ r8)) => ?_)
      · rw [if_pos hc9] at hf
        refine hG.1 2 47 kb_259_47 _ _ _ rfl ?_
        refine hG.1 3 48 kb_259_48 _ _ _ rfl ?_
        cases hf
        exact And.intro (fun _ => Or.inl rfl) (And.intro rfl rfl)
      · rw [if_neg hc9] at hf
        refine hG.1 1 43 kb_259_43 _ _ _ rfl ?_
        refine hG.1 3 48 kb_259_48 _ _ _ rfl ?_
        cases hf
        exact And.intro (fun _ => Or.inr rfl) (And.intro rfl rfl)
def f_268_42 (N : Nat) (h : pb_HP) (v0 : Nat) (v1 : Int32) (v2 : Int32) (v3 : Int32) (s0 : Int32) : Option ((Int32 × Int32) ⊕ (Int32)) :=
  if s0 = 0 then (some (.inl ((v2, v3 + 1)))) else (if pb_is h v0 11 then ((f_267 N h v0 v3).bind fun r5 => (if ¬ r5 = v1 then (some (.inl ((v2, v3 + 1)))) else (some (.inl ((v3, v3 + 1)))))) else none)
def f_268_11s (N : Nat) (h : pb_HP) (v0 : Nat) (v1 : Int32) (s : Int32 × Int32) : Option ((Int32 × Int32) ⊕ (Int32)) :=
  if pb_is h v0 11 then (if ((1 : Int32) <<< ((pb_I h v0 24) &&& 31)) ≤ s.2 then (some (.inr s.1)) else (if s.1 = ((-1)) then (f_268_42 N h v0 v1 s.1 s.2 1) else ((f_172 N s.2).bind fun r8 => ((f_172 N s.1).bind fun r9 => (if r9 ≤ r8 then (f_268_42 N h v0 v1 s.1 s.2 0) else (f_268_42 N h v0 v1 s.1 s.2 1)))))) else none
/-- PointedBenchModel.guards -/
def f_268 (N : Nat) (h : pb_HP) (v0 : Nat) : Option (Int32) :=
  if pb_is h v0 11 then ((f_267 N h v0 63).bind fun r2 => ((pb_wl (f_268_11s N h v0 r2) N (((-1), 0))).bind fun e13 => (some e13))) else none
set_option maxRecDepth 4000 in
theorem l_268 {xs : List Int32} {d : Nat} {N : Nat} {h : pb_HP} {v0 : Nat} {r : Int32} (hf : f_268 N h v0 = some r) : pb_AR xs (d + 3) 268 h [.ref v0] (some (.int r)) h := by
  intro G hG
  have hc_ : pb_CODE 268 = kc_268 := rfl
  rw [hc_] at hG
  have hj_42 : ∀ (v0 : Nat) (v1 : Int32) (v2 : Int32) (v3 : Int32) (s0 : Int32) x, f_268_42 N h v0 v1 v2 v3 s0 = some x → pb_kk (fun (s_ : Int32 × Int32) => G 11 [(0, .ref v0), (1, .int v1), (2, .int s_.1), (3, .int s_.2)] [] h) (fun (e_ : Int32) => G 70 [(2, .int e_)] [] h) x → G 42 [(0, .ref v0), (1, .int v1), (2, .int v2), (3, .int v3)] [.int s0] h := by
    intro v0 v1 v2 v3 s0 x hf hk
    unfold f_268_42 at hf
    refine hG.1 4 42 kb_268_42 _ _ _ rfl ?_
    refine And.intro (fun (hc7 : s0 = 0) => ?_) (fun (hc7 : ¬ (s0 = 0)) => ?_)
    · rw [if_pos hc7] at hf
      refine hG.1 5 62 kb_268_62 _ _ _ rfl ?_
      refine hG.1 6 63 kb_268_63 _ _ _ rfl ?_
      cases hf
      exact hG.2 11 _ [0, 1, 2, 3] _ _ _ rfl hk
    · rw [if_neg hc7] at hf
      obtain ⟨hg4, hf⟩ := pb_gd hf
      obtain ⟨r5, cr5, hf⟩ := Option.bind_eq_some_iff.mp hf
      refine And.intro hg4 (And.intro (Nat.le_of_ble_eq_true rfl) (And.intro (Nat.le_of_ble_eq_true rfl) (Exists.intro (some (.int r5)) (Exists.intro _ (And.intro (l_267 cr5) (?_))))))
      refine And.intro (fun (hc6 : ¬ r5 = v1) => ?_) (fun (hc6 : ¬ (¬ r5 = v1)) => ?_)
      · rw [if_pos hc6] at hf
        refine hG.1 5 62 kb_268_62 _ _ _ rfl ?_
        refine hG.1 6 63 kb_268_63 _ _ _ rfl ?_
        cases hf
        exact hG.2 11 _ [0, 1, 2, 3] _ _ _ rfl hk
      · rw [if_neg hc6] at hf
        refine hG.1 6 63 kb_268_63 _ _ _ rfl ?_
        cases hf
        exact hG.2 11 _ [0, 1, 2, 3] _ _ _ rfl hk
  have hl_11 : ∀ (v0 : Nat) (v1 : Int32) (n_ : Nat) (s : Int32 × Int32) (e : Int32), pb_wl (f_268_11s N h v0 v1) n_ s = some e → G 70 [(2, .int e)] [] h → G 11 [(0, .ref v0), (1, .int v1), (2, .int s.1), (3, .int s.2)] [] h := by
    intro v0 v1
    refine pb_wl_ind (I := fun (s : Int32 × Int32) => G 11 [(0, .ref v0), (1, .int v1), (2, .int s.1), (3, .int s.2)] [] h) (K := fun (e : Int32) => G 70 [(2, .int e)] [] h) (fun s x hf hk => ?_)
    unfold f_268_11s at hf
    refine hG.1 1 11 kb_268_11 _ _ _ rfl ?_
    obtain ⟨hg3, hf⟩ := pb_gd hf
    refine And.intro hg3 (?_)
    refine And.intro (fun (hc12 : ((1 : Int32) <<< ((pb_I h v0 24) &&& 31)) ≤ s.2) => ?_) (fun (hc12 : ¬ (((1 : Int32) <<< ((pb_I h v0 24) &&& 31)) ≤ s.2)) => ?_)
    · rw [if_pos hc12] at hf
      cases hf
      exact hG.2 70 _ [2] _ _ _ rfl hk
    · rw [if_neg hc12] at hf
      refine And.intro (fun (hc11 : s.1 = ((-1))) => ?_) (fun (hc11 : ¬ (s.1 = ((-1)))) => ?_)
      · rw [if_pos hc11] at hf
        refine hG.1 2 37 kb_268_37 _ _ _ rfl ?_
        exact hj_42 _ _ _ _ _ _ hf hk
      · rw [if_neg hc11] at hf
        obtain ⟨r8, cr8, hf⟩ := Option.bind_eq_some_iff.mp hf
        refine And.intro (Nat.le_of_ble_eq_true rfl) (And.intro (Nat.le_of_ble_eq_true rfl) (And.intro (Nat.le_of_ble_eq_true rfl) (Exists.intro (some (.int r8)) (Exists.intro _ (And.intro (l_172 cr8) (?_))))))
        obtain ⟨r9, cr9, hf⟩ := Option.bind_eq_some_iff.mp hf
        refine And.intro (Nat.le_of_ble_eq_true rfl) (And.intro (Nat.le_of_ble_eq_true rfl) (And.intro (Nat.le_of_ble_eq_true rfl) (Exists.intro (some (.int r9)) (Exists.intro _ (And.intro (l_172 cr9) (?_))))))
        refine And.intro (fun (hc10 : r9 ≤ r8) => ?_) (fun (hc10 : ¬ (r9 ≤ r8)) => ?_)
        · rw [if_pos hc10] at hf
          refine hG.1 3 41 kb_268_41 _ _ _ rfl ?_
          exact hj_42 _ _ _ _ _ _ hf hk
        · rw [if_neg hc10] at hf
          refine hG.1 2 37 kb_268_37 _ _ _ rfl ?_
          exact hj_42 _ _ _ _ _ _ hf hk
  unfold f_268 at hf
  refine hG.1 0 0 kb_268_0 _ _ _ rfl ?_
  obtain ⟨hg1, hf⟩ := pb_gd hf
  obtain ⟨r2, cr2, hf⟩ := Option.bind_eq_some_iff.mp hf
  refine And.intro hg1 (And.intro (Nat.le_of_ble_eq_true rfl) (And.intro (Nat.le_of_ble_eq_true rfl) (Exists.intro (some (.int r2)) (Exists.intro _ (And.intro (l_267 cr2) (?_))))))
  obtain ⟨e13, he_e13, hf⟩ := Option.bind_eq_some_iff.mp hf
  refine hl_11 _ _ _ _ _ he_e13 ?_
  refine hG.1 7 70 kb_268_70 _ _ _ rfl ?_
  cases hf
  exact And.intro (fun z_ => absurd z_ (by decide)) (And.intro rfl rfl)
def f_291_30s (N : Nat) (h : pb_HP) (v0 : Nat) (v1 : Int32) (v2 : Int32) (v3 : Int32) (s : Int32 × Int32) : Option ((Int32 × Int32) ⊕ (Int32)) :=
  (f_172 N v1).bind fun r1 => (if r1 ≤ s.2 then (some (.inr s.1)) else (some (.inl ((s.1 * v2, s.2 + 1)))))
def f_291_54s (N : Nat) (v0 : Nat) (v1 : Int32) (v2 : Int32) (v4 : Int32) (s : Int32 × Int32 × pb_HP) : Option ((Int32 × Int32 × pb_HP) ⊕ (Int32 × pb_HP)) :=
  if v4 ≤ s.2.1 then (some (.inr ((s.1, s.2.2)))) else (if ¬ s.1 = 0 then (some (.inr ((s.1, s.2.2)))) else (if pb_is s.2.2 v0 11 then ((f_289 N s.2.2 v0 s.2.1 v2 v1).bind fun h6 => (if pb_is h6 v0 11 then ((f_290 N h6 v0).bind fun r8 => (some (.inl ((r8, s.2.1 + 1, h6))))) else none)) else none))
def f_291_17s (N : Nat) (v0 : Nat) (v1 : Int32) (s : Int32 × Int32 × pb_HP) : Option ((Int32 × Int32 × pb_HP) ⊕ (Int32 × pb_HP)) :=
  if ¬ s.2.1 = 0 then (some (.inr ((s.1, s.2.2)))) else ((pb_wl (f_291_30s N s.2.2 v0 v1 (s.1 + 1) s.2.1) N ((1, 0))).bind fun e3 => ((pb_wl (f_291_54s N v0 v1 (s.1 + 1) e3) N ((s.2.1, 0, s.2.2))).bind fun e11 => (some (.inl ((s.1 + 1, e11.1, e11.2))))))
/-- PointedBenchModel.fewestWings -/
def f_291 (N : Nat) (h : pb_HP) (v0 : Nat) (v1 : Int32) : Option (Int32 × pb_HP) :=
  if ¬ v1 = 0 then ((pb_wl (f_291_17s N v0 v1) N ((0, 0, h))).bind fun e13 => (some ((e13.1, e13.2)))) else (if pb_is h v0 11 then ((f_289 N h v0 0 1 0).bind fun h16 => (some ((0, h16)))) else none)
set_option maxRecDepth 4000 in
theorem l_291 {xs : List Int32} {d : Nat} {N : Nat} {h : pb_HP} {v0 : Nat} {v1 : Int32} {r : Int32} {hE : pb_HP} (hf : f_291 N h v0 v1 = some ((r, hE))) : pb_AR xs (d + 3) 291 h [.ref v0, .int v1] (some (.int r)) hE := by
  intro G hG
  have hc_ : pb_CODE 291 = kc_291 := rfl
  rw [hc_] at hG
  have hl_30 : ∀ (h : pb_HP) (v0 : Nat) (v1 : Int32) (v2 : Int32) (v3 : Int32) (n_ : Nat) (s : Int32 × Int32) (e : Int32), pb_wl (f_291_30s N h v0 v1 v2 v3) n_ s = some e → G 51 [(0, .ref v0), (1, .int v1), (2, .int v2), (3, .int v3), (4, .int e)] [] h → G 30 [(0, .ref v0), (1, .int v1), (2, .int v2), (3, .int v3), (4, .int s.1), (5, .int s.2)] [] h := by
    intro h v0 v1 v2 v3
    refine pb_wl_ind (I := fun (s : Int32 × Int32) => G 30 [(0, .ref v0), (1, .int v1), (2, .int v2), (3, .int v3), (4, .int s.1), (5, .int s.2)] [] h) (K := fun (e : Int32) => G 51 [(0, .ref v0), (1, .int v1), (2, .int v2), (3, .int v3), (4, .int e)] [] h) (fun s x hf hk => ?_)
    unfold f_291_30s at hf
    refine hG.1 3 30 kb_291_30 _ _ _ rfl ?_
    obtain ⟨r1, cr1, hf⟩ := Option.bind_eq_some_iff.mp hf
    refine And.intro (Nat.le_of_ble_eq_true rfl) (And.intro (Nat.le_of_ble_eq_true rfl) (And.intro (Nat.le_of_ble_eq_true rfl) (Exists.intro (some (.int r1)) (Exists.intro _ (And.intro (l_172 cr1) (?_))))))
    refine And.intro (fun (hc2 : r1 ≤ s.2) => ?_) (fun (hc2 : ¬ (r1 ≤ s.2)) => ?_)
    · rw [if_pos hc2] at hf
      cases hf
      exact hG.2 51 _ [0, 1, 2, 3, 4] _ _ _ rfl hk
    · rw [if_neg hc2] at hf
      cases hf
      exact hk
  have hl_54 : ∀ (v0 : Nat) (v1 : Int32) (v2 : Int32) (v4 : Int32) (n_ : Nat) (s : Int32 × Int32 × pb_HP) (e : Int32 × pb_HP), pb_wl (f_291_54s N v0 v1 v2 v4) n_ s = some e → G 84 [(0, .ref v0), (1, .int v1), (2, .int v2), (3, .int e.1)] [] e.2 → G 54 [(0, .ref v0), (1, .int v1), (2, .int v2), (3, .int s.1), (4, .int v4), (5, .int s.2.1)] [] s.2.2 := by
    intro v0 v1 v2 v4
    refine pb_wl_ind (I := fun (s : Int32 × Int32 × pb_HP) => G 54 [(0, .ref v0), (1, .int v1), (2, .int v2), (3, .int s.1), (4, .int v4), (5, .int s.2.1)] [] s.2.2) (K := fun (e : Int32 × pb_HP) => G 84 [(0, .ref v0), (1, .int v1), (2, .int v2), (3, .int e.1)] [] e.2) (fun s x hf hk => ?_)
    unfold f_291_54s at hf
    refine hG.1 5 54 kb_291_54 _ _ _ rfl ?_
    refine And.intro (fun (hc10 : v4 ≤ s.2.1) => ?_) (fun (hc10 : ¬ (v4 ≤ s.2.1)) => ?_)
    · rw [if_pos hc10] at hf
      cases hf
      exact hG.2 84 _ [0, 1, 2, 3] _ _ _ rfl hk
    · rw [if_neg hc10] at hf
      refine And.intro (fun (hc9 : ¬ s.1 = 0) => ?_) (fun (hc9 : ¬ (¬ s.1 = 0)) => ?_)
      · rw [if_pos hc9] at hf
        cases hf
        exact hG.2 84 _ [0, 1, 2, 3] _ _ _ rfl hk
      · rw [if_neg hc9] at hf
        obtain ⟨hg4, hf⟩ := pb_gd hf
        obtain ⟨h6, cr5, hf⟩ := Option.bind_eq_some_iff.mp hf
        refine And.intro hg4 (And.intro (Nat.le_of_ble_eq_true rfl) (And.intro (Nat.le_of_ble_eq_true rfl) (Exists.intro none (Exists.intro _ (And.intro (l_289 cr5) (?_))))))
        obtain ⟨hg7, hf⟩ := pb_gd hf
        obtain ⟨r8, cr8, hf⟩ := Option.bind_eq_some_iff.mp hf
        refine And.intro hg7 (And.intro (Nat.le_of_ble_eq_true rfl) (And.intro (Nat.le_of_ble_eq_true rfl) (Exists.intro (some (.int r8)) (Exists.intro _ (And.intro (l_290 cr8) (?_))))))
        cases hf
        exact hk
  have hl_17 : ∀ (v0 : Nat) (v1 : Int32) (n_ : Nat) (s : Int32 × Int32 × pb_HP) (e : Int32 × pb_HP), pb_wl (f_291_17s N v0 v1) n_ s = some e → G 87 [(2, .int e.1)] [] e.2 → G 17 [(0, .ref v0), (1, .int v1), (2, .int s.1), (3, .int s.2.1)] [] s.2.2 := by
    intro v0 v1
    refine pb_wl_ind (I := fun (s : Int32 × Int32 × pb_HP) => G 17 [(0, .ref v0), (1, .int v1), (2, .int s.1), (3, .int s.2.1)] [] s.2.2) (K := fun (e : Int32 × pb_HP) => G 87 [(2, .int e.1)] [] e.2) (fun s x hf hk => ?_)
    unfold f_291_17s at hf
    refine hG.1 2 17 kb_291_17 _ _ _ rfl ?_
    refine And.intro (fun (hc12 : ¬ s.2.1 = 0) => ?_) (fun (hc12 : ¬ (¬ s.2.1 = 0)) => ?_)
    · rw [if_pos hc12] at hf
      cases hf
      exact hG.2 87 _ [2] _ _ _ rfl hk
    · rw [if_neg hc12] at hf
      obtain ⟨e3, he_e3, hf⟩ := Option.bind_eq_some_iff.mp hf
      refine hl_30 _ _ _ _ _ _ _ _ he_e3 ?_
      refine hG.1 4 51 kb_291_51 _ _ _ rfl ?_
      obtain ⟨e11, he_e11, hf⟩ := Option.bind_eq_some_iff.mp hf
      refine hl_54 _ _ _ _ _ _ _ he_e11 ?_
      refine hG.1 6 84 kb_291_84 _ _ _ rfl ?_
      cases hf
      exact hk
  unfold f_291 at hf
  refine hG.1 0 0 kb_291_0 _ _ _ rfl ?_
  refine And.intro (fun (hc17 : ¬ v1 = 0) => ?_) (fun (hc17 : ¬ (¬ v1 = 0)) => ?_)
  · rw [if_pos hc17] at hf
    refine hG.1 1 13 kb_291_13 _ _ _ rfl ?_
    obtain ⟨e13, he_e13, hf⟩ := Option.bind_eq_some_iff.mp hf
    refine hl_17 _ _ _ _ _ he_e13 ?_
    refine hG.1 7 87 kb_291_87 _ _ _ rfl ?_
    cases hf
    exact And.intro (fun z_ => absurd z_ (by decide)) (And.intro rfl rfl)
  · rw [if_neg hc17] at hf
    obtain ⟨hg14, hf⟩ := pb_gd hf
    obtain ⟨h16, cr15, hf⟩ := Option.bind_eq_some_iff.mp hf
    refine And.intro hg14 (And.intro (Nat.le_of_ble_eq_true rfl) (And.intro (Nat.le_of_ble_eq_true rfl) (Exists.intro none (Exists.intro _ (And.intro (l_289 cr15) (?_))))))
    cases hf
    exact And.intro (fun z_ => absurd z_ (by decide)) (And.intro rfl rfl)
def f_295_4s (N : Nat) (h : pb_HP) (v0 : Nat) (s : Int32 × Int32) : Option ((Int32 × Int32) ⊕ (Int32)) :=
  if pb_is h v0 11 then (if (pb_I h v0 24) ≤ s.2 then (some (.inr s.1)) else ((pb_R h v0 30).bind fun q2 => (if pb_ar h q2 12 s.2 then ((f_172 N (pb_I h q2 s.2.toNatClampNeg)).bind fun r4 => (some (.inl ((s.1 + r4, s.2 + 1))))) else none))) else none
/-- PointedBenchModel.allTraits -/
def f_295 (N : Nat) (h : pb_HP) (v0 : Nat) : Option (Int32) :=
  (pb_wl (f_295_4s N h v0) N ((0, 0))).bind fun e6 => (some e6)
set_option maxRecDepth 4000 in
theorem l_295 {xs : List Int32} {d : Nat} {N : Nat} {h : pb_HP} {v0 : Nat} {r : Int32} (hf : f_295 N h v0 = some r) : pb_AR xs (d + 3) 295 h [.ref v0] (some (.int r)) h := by
  intro G hG
  have hc_ : pb_CODE 295 = kc_295 := rfl
  rw [hc_] at hG
  have hl_4 : ∀ (v0 : Nat) (n_ : Nat) (s : Int32 × Int32) (e : Int32), pb_wl (f_295_4s N h v0) n_ s = some e → G 30 [(1, .int e)] [] h → G 4 [(0, .ref v0), (1, .int s.1), (2, .int s.2)] [] h := by
    intro v0
    refine pb_wl_ind (I := fun (s : Int32 × Int32) => G 4 [(0, .ref v0), (1, .int s.1), (2, .int s.2)] [] h) (K := fun (e : Int32) => G 30 [(1, .int e)] [] h) (fun s x hf hk => ?_)
    unfold f_295_4s at hf
    refine hG.1 1 4 kb_295_4 _ _ _ rfl ?_
    obtain ⟨hg1, hf⟩ := pb_gd hf
    refine And.intro hg1 (?_)
    refine And.intro (fun (hc5 : (pb_I h v0 24) ≤ s.2) => ?_) (fun (hc5 : ¬ ((pb_I h v0 24) ≤ s.2)) => ?_)
    · rw [if_pos hc5] at hf
      cases hf
      exact hG.2 30 _ [1] _ _ _ rfl hk
    · rw [if_neg hc5] at hf
      obtain ⟨q2, eq2, hf⟩ := Option.bind_eq_some_iff.mp hf
      obtain ⟨hg3, hf⟩ := pb_gd hf
      refine And.intro hg1 (Exists.intro q2 (And.intro eq2 (And.intro hg3 (?_))))
      obtain ⟨r4, cr4, hf⟩ := Option.bind_eq_some_iff.mp hf
      refine And.intro (Nat.le_of_ble_eq_true rfl) (And.intro (Nat.le_of_ble_eq_true rfl) (And.intro (Nat.le_of_ble_eq_true rfl) (Exists.intro (some (.int r4)) (Exists.intro _ (And.intro (l_172 cr4) (?_))))))
      cases hf
      exact hk
  unfold f_295 at hf
  refine hG.1 0 0 kb_295_0 _ _ _ rfl ?_
  obtain ⟨e6, he_e6, hf⟩ := Option.bind_eq_some_iff.mp hf
  refine hl_4 _ _ _ _ he_e6 ?_
  refine hG.1 2 30 kb_295_30 _ _ _ rfl ?_
  cases hf
  exact And.intro (fun z_ => absurd z_ (by decide)) (And.intro rfl rfl)
def f_296_4s (N : Nat) (h : pb_HP) (v0 : Nat) (s : Int32 × Int32) : Option ((Int32 × Int32) ⊕ (Int32)) :=
  if pb_is h v0 11 then (if (pb_I h v0 25) ≤ s.2 then (some (.inr s.1)) else ((pb_R h v0 33).bind fun q2 => (if pb_ar h q2 12 s.2 then ((f_172 N (pb_I h q2 s.2.toNatClampNeg)).bind fun r4 => (some (.inl ((s.1 + r4, s.2 + 1))))) else none))) else none
/-- PointedBenchModel.allFears -/
def f_296 (N : Nat) (h : pb_HP) (v0 : Nat) : Option (Int32) :=
  (pb_wl (f_296_4s N h v0) N ((0, 0))).bind fun e6 => (some e6)
set_option maxRecDepth 4000 in
theorem l_296 {xs : List Int32} {d : Nat} {N : Nat} {h : pb_HP} {v0 : Nat} {r : Int32} (hf : f_296 N h v0 = some r) : pb_AR xs (d + 3) 296 h [.ref v0] (some (.int r)) h := by
  intro G hG
  have hc_ : pb_CODE 296 = kc_296 := rfl
  rw [hc_] at hG
  have hl_4 : ∀ (v0 : Nat) (n_ : Nat) (s : Int32 × Int32) (e : Int32), pb_wl (f_296_4s N h v0) n_ s = some e → G 30 [(1, .int e)] [] h → G 4 [(0, .ref v0), (1, .int s.1), (2, .int s.2)] [] h := by
    intro v0
    refine pb_wl_ind (I := fun (s : Int32 × Int32) => G 4 [(0, .ref v0), (1, .int s.1), (2, .int s.2)] [] h) (K := fun (e : Int32) => G 30 [(1, .int e)] [] h) (fun s x hf hk => ?_)
    unfold f_296_4s at hf
    refine hG.1 1 4 kb_296_4 _ _ _ rfl ?_
    obtain ⟨hg1, hf⟩ := pb_gd hf
    refine And.intro hg1 (?_)
    refine And.intro (fun (hc5 : (pb_I h v0 25) ≤ s.2) => ?_) (fun (hc5 : ¬ ((pb_I h v0 25) ≤ s.2)) => ?_)
    · rw [if_pos hc5] at hf
      cases hf
      exact hG.2 30 _ [1] _ _ _ rfl hk
    · rw [if_neg hc5] at hf
      obtain ⟨q2, eq2, hf⟩ := Option.bind_eq_some_iff.mp hf
      obtain ⟨hg3, hf⟩ := pb_gd hf
      refine And.intro hg1 (Exists.intro q2 (And.intro eq2 (And.intro hg3 (?_))))
      obtain ⟨r4, cr4, hf⟩ := Option.bind_eq_some_iff.mp hf
      refine And.intro (Nat.le_of_ble_eq_true rfl) (And.intro (Nat.le_of_ble_eq_true rfl) (And.intro (Nat.le_of_ble_eq_true rfl) (Exists.intro (some (.int r4)) (Exists.intro _ (And.intro (l_172 cr4) (?_))))))
      cases hf
      exact hk
  unfold f_296 at hf
  refine hG.1 0 0 kb_296_0 _ _ _ rfl ?_
  obtain ⟨e6, he_e6, hf⟩ := Option.bind_eq_some_iff.mp hf
  refine hl_4 _ _ _ _ he_e6 ?_
  refine hG.1 2 30 kb_296_30 _ _ _ rfl ?_
  cases hf
  exact And.intro (fun z_ => absurd z_ (by decide)) (And.intro rfl rfl)
/-- PointedBenchModel.image -/
def f_303 (N : Nat) (h : pb_HP) (v0 : Nat) (v1 : Int32) : Option (Int32 × pb_HP) :=
  if pb_is h v0 11 then ((f_168 v1 0 2).bind fun r2 => (if ¬ r2 = 0 then ((f_174 N (pb_pI h v0 0 0) v0 0 (v1 + 1)).bind fun h4 => (if pb_is h4 v0 11 then ((pb_R h4 v0 51).bind fun q6 => (if pb_ar h4 q6 14 v1 then (some ((1, pb_pI h4 q6 v1.toNatClampNeg 1))) else none)) else none)) else (some ((0, pb_pI h v0 0 0))))) else none
set_option maxRecDepth 4000 in
theorem l_303 {xs : List Int32} {d : Nat} {N : Nat} {h : pb_HP} {v0 : Nat} {v1 : Int32} {r : Int32} {hE : pb_HP} (hf : f_303 N h v0 v1 = some ((r, hE))) : pb_AR xs (d + 3) 303 h [.ref v0, .int v1] (some (.int r)) hE := by
  intro G hG
  have hc_ : pb_CODE 303 = kc_303 := rfl
  rw [hc_] at hG
  unfold f_303 at hf
  refine hG.1 0 0 kb_303_0 _ _ _ rfl ?_
  obtain ⟨hg1, hf⟩ := pb_gd hf
  refine And.intro hg1 (?_)
  obtain ⟨r2, cr2, hf⟩ := Option.bind_eq_some_iff.mp hf
  refine And.intro (Nat.le_of_ble_eq_true rfl) (And.intro (Nat.le_of_ble_eq_true rfl) (And.intro (Nat.le_of_ble_eq_true rfl) (Exists.intro (some (.int r2)) (Exists.intro _ (And.intro (l_168 cr2) (?_))))))
  refine And.intro (fun (hc8 : ¬ r2 = 0) => ?_) (fun (hc8 : ¬ (¬ r2 = 0)) => ?_)
  · rw [if_pos hc8] at hf
    refine hG.1 1 16 kb_303_16 _ _ _ rfl ?_
    obtain ⟨h4, cr3, hf⟩ := Option.bind_eq_some_iff.mp hf
    refine And.intro hg1 (And.intro (Nat.le_of_ble_eq_true rfl) (And.intro (Nat.le_of_ble_eq_true rfl) (Exists.intro none (Exists.intro _ (And.intro (l_174 cr3) (?_))))))
    obtain ⟨hg5, hf⟩ := pb_gd hf
    obtain ⟨q6, eq6, hf⟩ := Option.bind_eq_some_iff.mp hf
    obtain ⟨hg7, hf⟩ := pb_gd hf
    refine And.intro hg5 (Exists.intro q6 (And.intro eq6 (And.intro hg7 (And.intro (Or.inr rfl) (?_)))))
    cases hf
    exact And.intro (fun _ => Or.inr rfl) (And.intro rfl rfl)
  · rw [if_neg hc8] at hf
    cases hf
    exact And.intro (fun _ => Or.inl rfl) (And.intro rfl rfl)
/-- PointedBenchModel.again -/
def f_304 (N : Nat) (h : pb_HP) (v0 : Nat) (v1 : Int32) : Option (Int32 × pb_HP) :=
  if pb_is h v0 11 then ((f_168 v1 0 2).bind fun r2 => (if r2 = 0 then (some ((0, pb_pI h v0 0 0))) else ((pb_R h v0 51).bind fun q3 => (if pb_ar h q3 14 v1 then (if ¬ (pb_I (pb_pI h v0 0 0) q3 v1.toNatClampNeg) = 0 then ((f_174 N (pb_pI h v0 0 0) v0 (v1 + 1) 0).bind fun h6 => (some ((1, h6)))) else (some ((0, pb_pI h v0 0 0)))) else none)))) else none
set_option maxRecDepth 4000 in
theorem l_304 {xs : List Int32} {d : Nat} {N : Nat} {h : pb_HP} {v0 : Nat} {v1 : Int32} {r : Int32} {hE : pb_HP} (hf : f_304 N h v0 v1 = some ((r, hE))) : pb_AR xs (d + 3) 304 h [.ref v0, .int v1] (some (.int r)) hE := by
  intro G hG
  have hc_ : pb_CODE 304 = kc_304 := rfl
  rw [hc_] at hG
  unfold f_304 at hf
  refine hG.1 0 0 kb_304_0 _ _ _ rfl ?_
  obtain ⟨hg1, hf⟩ := pb_gd hf
  refine And.intro hg1 (?_)
  obtain ⟨r2, cr2, hf⟩ := Option.bind_eq_some_iff.mp hf
  refine And.intro (Nat.le_of_ble_eq_true rfl) (And.intro (Nat.le_of_ble_eq_true rfl) (And.intro (Nat.le_of_ble_eq_true rfl) (Exists.intro (some (.int r2)) (Exists.intro _ (And.intro (l_168 cr2) (?_))))))
  refine And.intro (fun (hc8 : r2 = 0) => ?_) (fun (hc8 : ¬ (r2 = 0)) => ?_)
  · rw [if_pos hc8] at hf
    refine hG.1 1 23 kb_304_23 _ _ _ rfl ?_
    cases hf
    exact And.intro (fun _ => Or.inl rfl) (And.intro rfl rfl)
  · rw [if_neg hc8] at hf
    obtain ⟨q3, eq3, hf⟩ := Option.bind_eq_some_iff.mp hf
    obtain ⟨hg4, hf⟩ := pb_gd hf
    refine And.intro hg1 (Exists.intro q3 (And.intro eq3 (And.intro hg4 (?_))))
    refine And.intro (fun (hc7 : ¬ (pb_I (pb_pI h v0 0 0) q3 v1.toNatClampNeg) = 0) => ?_) (fun (hc7 : ¬ (¬ (pb_I (pb_pI h v0 0 0) q3 v1.toNatClampNeg) = 0)) => ?_)
    · rw [if_pos hc7] at hf
      refine hG.1 2 25 kb_304_25 _ _ _ rfl ?_
      obtain ⟨h6, cr5, hf⟩ := Option.bind_eq_some_iff.mp hf
      refine And.intro hg1 (And.intro (Nat.le_of_ble_eq_true rfl) (And.intro (Nat.le_of_ble_eq_true rfl) (Exists.intro none (Exists.intro _ (And.intro (l_174 cr5) (?_))))))
      cases hf
      exact And.intro (fun _ => Or.inr rfl) (And.intro rfl rfl)
    · rw [if_neg hc7] at hf
      refine hG.1 1 23 kb_304_23 _ _ _ rfl ?_
      cases hf
      exact And.intro (fun _ => Or.inl rfl) (And.intro rfl rfl)
