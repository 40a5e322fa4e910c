def f_rec121 (N : Nat) : Nat → pb_HP → Nat → Nat → Int32 → Int32 → Option (Int32 × pb_HP)
  | 0 => fun _ _ _ _ _ => none
  | M + 1 => fun h v0 v1 v2 v3 => f_121 (f_rec121 N M) N h v0 v1 v2 v3
theorem l_rec121 {xs : List Int32} {N : Nat} : ∀ (M d : Nat) {h hE : pb_HP} {v0 : Nat} {v1 : Nat} {v2 : Int32} {v3 : Int32} {r : Int32}, f_rec121 N M h v0 v1 v2 v3 = some (r, hE) → pb_AR xs (d + 10 + 1 * M) 121 h [.ref v0, .ref v1, .int v2, .int v3] (some (.int r)) hE
  | 0, _, _, _, _, _, _, _, _, hf => by cases hf
  | M + 1, d, h, hE, _, _, _, _, r, hf => by
    have h1 := l_121 (xs := xs) (d := d + 1 * M) (F := f_rec121 N M) (fun {_ _ _ _ _ _ _} e_ => by
      have h2 := l_rec121 (xs := xs) (N := N) M d e_
      rwa [show d + 10 + 1 * M = d + 1 * M + 10 by omega] at h2) hf
    rwa [show d + 1 * M + 11 = d + 10 + 1 * (M + 1) by omega] at h1
theorem l_121c {xs : List Int32} {d N : Nat} {h hE : pb_HP} {v0 : Nat} {v1 : Nat} {v2 : Int32} {v3 : Int32} {r : Int32} (hf : f_rec121 N 8 h v0 v1 v2 v3 = some (r, hE)) : pb_AR xs (d + 18) 121 h [.ref v0, .ref v1, .int v2, .int v3] (some (.int r)) hE := l_rec121 8 d hf
def f_rec117 (N : Nat) : Nat → pb_HP → Nat → Int32 → Int32 → Int32 → Option (Int32 × pb_HP)
  | 0 => fun _ _ _ _ _ => none
  | M + 1 => fun h v0 v1 v2 v3 => f_117 (f_rec117 N M) N h v0 v1 v2 v3
theorem l_rec117 {xs : List Int32} {N : Nat} : ∀ (M d : Nat) {h hE : pb_HP} {v0 : Nat} {v1 : Int32} {v2 : Int32} {v3 : Int32} {r : Int32}, f_rec117 N M h v0 v1 v2 v3 = some (r, hE) → pb_AR xs (d + 10 + 2 * M) 117 h [.ref v0, .int v1, .int v2, .int v3] (some (.int r)) hE
  | 0, _, _, _, _, _, _, _, _, hf => by cases hf
  | M + 1, d, h, hE, _, _, _, _, r, hf => by
    have h1 := l_117 (xs := xs) (d := d + 2 * M) (F := f_rec117 N M) (fun {_ _ _ _ _ _ _} e_ => by
      have h2 := l_rec117 (xs := xs) (N := N) M d e_
      rwa [show d + 10 + 2 * M = d + 2 * M + 10 by omega] at h2) hf
    rwa [show d + 2 * M + 12 = d + 10 + 2 * (M + 1) by omega] at h1
theorem l_117c {xs : List Int32} {d N : Nat} {h hE : pb_HP} {v0 : Nat} {v1 : Int32} {v2 : Int32} {v3 : Int32} {r : Int32} (hf : f_rec117 N 6 h v0 v1 v2 v3 = some (r, hE)) : pb_AR xs (d + 22) 117 h [.ref v0, .int v1, .int v2, .int v3] (some (.int r)) hE := l_rec117 6 d hf
def f_120_2s (N : Nat) (v0 : Nat) (v1 : Nat) (s : Int32 × pb_HP) : Option ((Int32 × pb_HP) ⊕ ((Int32 × pb_HP) ⊕ (pb_HP))) :=
  if 6 < s.1 then (some (.inr (.inr s.2))) else (if pb_is s.2 v0 9 then ((f_rec121 N 8 s.2 v0 v1 0 s.1).bind fun (r2, h3) => (if r2 = 0 then (some (.inl ((s.1 + 1, h3)))) else (some (.inr (.inl ((s.1, h3))))))) else none)
/-- Wings.divide -/
def f_120 (N : Nat) (h : pb_HP) (v0 : Nat) (v1 : Nat) : Option (Int32 × pb_HP) :=
  (pb_wl (f_120_2s N v0 v1) N ((0, h))).bind fun e6 => (match e6 with | .inl q8 => some q8 | .inr x7 => some ((6, x7)))
set_option maxRecDepth 4000 in
theorem l_120 {xs : List Int32} {d : Nat} {N : Nat} {h : pb_HP} {v0 : Nat} {v1 : Nat} {r : Int32} {hE : pb_HP} (hf : f_120 N h v0 v1 = some ((r, hE))) : pb_AR xs (d + 19) 120 h [.ref v0, .ref v1] (some (.int r)) hE := by
  intro G hG
  have hc_ : pb_CODE 120 = kc_120 := rfl
  rw [hc_] at hG
  have hl_2 : ∀ (v0 : Nat) (v1 : Nat) (n_ : Nat) (s : Int32 × pb_HP) (e : (Int32 × pb_HP) ⊕ (pb_HP)), pb_wl (f_120_2s N v0 v1) n_ s = some e → pb_kk (fun (q_ : Int32 × pb_HP) => q_ = (r, hE)) (fun (x_ : pb_HP) => G 26 [] [] x_) e → G 2 [(0, .ref v0), (1, .ref v1), (2, .int s.1)] [] s.2 := by
    intro v0 v1
    refine pb_wl_ind (I := fun (s : Int32 × pb_HP) => G 2 [(0, .ref v0), (1, .ref v1), (2, .int s.1)] [] s.2) (K := fun (e : (Int32 × pb_HP) ⊕ (pb_HP)) => pb_kk (fun (q_ : Int32 × pb_HP) => q_ = (r, hE)) (fun (x_ : pb_HP) => G 26 [] [] x_) e) (fun s x hf hk => ?_)
    unfold f_120_2s at hf
    refine hG.1 1 2 kb_120_2 _ _ _ rfl ?_
    refine And.intro (fun (hc5 : 6 < s.1) => ?_) (fun (hc5 : ¬ (6 < s.1)) => ?_)
    · rw [if_pos hc5] at hf
      cases hf
      exact hG.2 26 _ [] _ _ _ rfl hk
    · rw [if_neg hc5] at hf
      obtain ⟨hg1, hf⟩ := pb_gd hf
      obtain ⟨⟨r2, h3⟩, cr2, hf⟩ := Option.bind_eq_some_iff.mp hf
      try dsimp only at hf
      refine And.intro hg1 (And.intro (Nat.le_of_ble_eq_true rfl) (And.intro (Nat.le_of_ble_eq_true rfl) (Exists.intro (some (.int r2)) (Exists.intro _ (And.intro (l_121c cr2) (?_))))))
      refine And.intro (fun (hc4 : r2 = 0) => ?_) (fun (hc4 : ¬ (r2 = 0)) => ?_)
      · rw [if_pos hc4] at hf
        refine hG.1 2 20 kb_120_20 _ _ _ rfl ?_
        cases hf
        exact hk
      · rw [if_neg hc4] at hf
        cases hf
        cases hk
        exact And.intro (fun z_ => absurd z_ (by decide)) (And.intro rfl rfl)
  unfold f_120 at hf
  refine hG.1 0 0 kb_120_0 _ _ _ rfl ?_
  obtain ⟨e6, he_e6, hf⟩ := Option.bind_eq_some_iff.mp hf
  refine hl_2 _ _ _ _ _ he_e6 ?_
  cases e6 with
  | inl q8 =>
    exact Option.some.inj hf
  | inr x7 =>
    try dsimp only at hf
    refine hG.1 3 26 kb_120_26 _ _ _ rfl ?_
    cases hf
    exact And.intro (fun z_ => absurd z_ (by decide)) (And.intro rfl rfl)
def f_155_28 (N : Nat) (h : pb_HP) (v0 : Nat) (v2 : Int32) (v3 : Nat) : Option (Int32 × pb_HP) :=
  if pb_is h v0 10 then ((pb_R h v0 7).bind fun q7 => (if pb_is h q7 9 then ((f_120 N h q7 v3).bind fun (r9, h10) => (if ¬ v2 = ((-1)) then (if pb_is h10 v0 10 then ((pb_R h10 v0 7).bind fun q12 => (if pb_is h10 q12 9 then ((pb_R h10 q12 0).bind fun q14 => (if pb_ar h10 q14 12 v2 then (some ((pb_I h10 q14 v2.toNatClampNeg, h10))) else none)) else none)) else none) else (some ((r9, h10))))) else none)) else none
/-- PointedBench.wings -/
def f_155 (N : Nat) (h : pb_HP) (v0 : Nat) (v1 : Int32) (v2 : Int32) : Option (Int32 × pb_HP) :=
  if pb_is h v0 10 then ((pb_R h v0 0).bind fun q2 => (if pb_is h q2 7 then ((f_105 h q2 v1).bind fun r4 => (match r4 with | none => (some (((-1), h))) | some q5 => (if v2 = ((-1)) then (f_155_28 N h v0 v2 q5) else (if pb_is h q5 0 then ((f_4 h q5 v2).bind fun r18 => (if ¬ r18 = 0 then (f_155_28 N h v0 v2 q5) else (some (((-1), h))))) else none)))) else none)) else none
set_option maxRecDepth 4000 in
theorem l_155 {xs : List Int32} {d : Nat} {N : Nat} {h : pb_HP} {v0 : Nat} {v1 : Int32} {v2 : Int32} {r : Int32} {hE : pb_HP} (hf : f_155 N h v0 v1 v2 = some ((r, hE))) : pb_AR xs (d + 20) 155 h [.ref v0, .int v1, .int v2] (some (.int r)) hE := by
  intro G hG
  have hc_ : pb_CODE 155 = kc_155 := rfl
  rw [hc_] at hG
  have hj_28 : ∀ (h : pb_HP) (v0 : Nat) (v2 : Int32) (v3 : Nat), f_155_28 N h v0 v2 v3 = some ((r, hE)) → G 28 [(0, .ref v0), (2, .int v2), (3, .ref v3)] [] h := by
    intro h v0 v2 v3 hf
    unfold f_155_28 at hf
    refine hG.1 2 28 kb_155_28 _ _ _ rfl ?_
    obtain ⟨hg6, hf⟩ := pb_gd hf
    obtain ⟨q7, eq7, hf⟩ := Option.bind_eq_some_iff.mp hf
    obtain ⟨hg8, hf⟩ := pb_gd hf
    refine And.intro hg6 (Exists.intro q7 (And.intro eq7 (?_)))
    obtain ⟨⟨r9, h10⟩, cr9, hf⟩ := Option.bind_eq_some_iff.mp hf
    try dsimp only at hf
    refine And.intro hg8 (And.intro (Nat.le_of_ble_eq_true rfl) (And.intro (Nat.le_of_ble_eq_true rfl) (Exists.intro (some (.int r9)) (Exists.intro _ (And.intro (l_120 cr9) (?_))))))
    refine And.intro (fun (hc16 : ¬ v2 = ((-1))) => ?_) (fun (hc16 : ¬ (¬ v2 = ((-1)))) => ?_)
    · rw [if_pos hc16] at hf
      refine hG.1 3 48 kb_155_48 _ _ _ rfl ?_
      obtain ⟨hg11, hf⟩ := pb_gd hf
      obtain ⟨q12, eq12, hf⟩ := Option.bind_eq_some_iff.mp hf
      obtain ⟨hg13, hf⟩ := pb_gd hf
      obtain ⟨q14, eq14, hf⟩ := Option.bind_eq_some_iff.mp hf
      obtain ⟨hg15, hf⟩ := pb_gd hf
      refine And.intro hg11 (Exists.intro q12 (And.intro eq12 (And.intro hg13 (Exists.intro q14 (And.intro eq14 (And.intro hg15 (?_)))))))
      refine hG.1 4 57 kb_155_57 _ _ _ rfl ?_
      cases hf
      exact And.intro (fun z_ => absurd z_ (by decide)) (And.intro rfl rfl)
    · rw [if_neg hc16] at hf
      refine hG.1 4 57 kb_155_57 _ _ _ rfl ?_
      cases hf
      exact And.intro (fun z_ => absurd z_ (by decide)) (And.intro rfl rfl)
  unfold f_155 at hf
  refine hG.1 0 0 kb_155_0 _ _ _ rfl ?_
  obtain ⟨hg1, hf⟩ := pb_gd hf
  obtain ⟨q2, eq2, hf⟩ := Option.bind_eq_some_iff.mp hf
  obtain ⟨hg3, hf⟩ := pb_gd hf
  refine And.intro hg1 (Exists.intro q2 (And.intro eq2 (?_)))
  obtain ⟨r4, cr4, hf⟩ := Option.bind_eq_some_iff.mp hf
  refine And.intro hg3 (And.intro (Nat.le_of_ble_eq_true rfl) (And.intro (Nat.le_of_ble_eq_true rfl) (Exists.intro (some (pb_rv r4)) (Exists.intro _ (And.intro (l_105 cr4) (?_))))))
  cases r4 with
  | none =>
    try dsimp only at hf
    refine hG.1 1 26 kb_155_26 _ _ _ rfl ?_
    cases hf
    exact And.intro (fun z_ => absurd z_ (by decide)) (And.intro rfl rfl)
  | some q5 =>
    try dsimp only at hf
    refine And.intro (fun (hc20 : v2 = ((-1))) => ?_) (fun (hc20 : ¬ (v2 = ((-1)))) => ?_)
    · rw [if_pos hc20] at hf
      refine hG.2 28 _ [0, 2, 3] _ _ _ rfl ?_
      exact hj_28 _ _ _ _ hf
    · rw [if_neg hc20] at hf
      obtain ⟨hg17, hf⟩ := pb_gd hf
      obtain ⟨r18, cr18, hf⟩ := Option.bind_eq_some_iff.mp hf
      refine And.intro hg17 (And.intro (Nat.le_of_ble_eq_true rfl) (And.intro (Nat.le_of_ble_eq_true rfl) (Exists.intro (some (.int r18)) (Exists.intro _ (And.intro (l_4 cr18) (?_))))))
      refine And.intro (fun (hc19 : ¬ r18 = 0) => ?_) (fun (hc19 : ¬ (¬ r18 = 0)) => ?_)
      · rw [if_pos hc19] at hf
        refine hG.2 28 _ [0, 2, 3] _ _ _ rfl ?_
        exact hj_28 _ _ _ _ hf
      · rw [if_neg hc19] at hf
        refine hG.1 1 26 kb_155_26 _ _ _ rfl ?_
        cases hf
        exact And.intro (fun z_ => absurd z_ (by decide)) (And.intro rfl rfl)
def f_115_47s (N : Nat) (v0 : Nat) (v2 : Int32) (v4 : Int32) (s : Int32 × Int32 × Int32 × pb_HP) : Option ((Int32 × Int32 × Int32 × pb_HP) ⊕ (Int32 × pb_HP)) :=
  if 6 < s.2.2.1 then (some (.inr ((s.2.1, s.2.2.2)))) else (if v4 ≤ 0 then (some (.inr ((s.2.1, s.2.2.2)))) else (if 1 ≤ s.1 then (some (.inr ((s.2.1, s.2.2.2)))) else (if pb_is s.2.2.2 v0 8 then ((f_116 s.2.2.2 v0 v2 s.2.2.1).bind fun r8 => (if r8 = 0 then (some (.inl ((s.1, s.2.1, s.2.2.1 + 1, s.2.2.2)))) else ((f_118 (f_rec117 N 6) N s.2.2.2 v0 0 s.2.2.1 (if s.1 < (-1) then (-1) else s.1) 1).bind fun (r9, h10) => (if r9 ≤ s.1 then (some (.inl ((s.1, s.2.1, s.2.2.1 + 1, h10)))) else (some (.inl ((r9, s.2.2.1, s.2.2.1 + 1, h10)))))))) else none)))
/-- Trial.contest -/
def f_115 (N : Nat) (h : pb_HP) (v0 : Nat) (v1 : Nat) (v2 : Int32) (v3 : Int32) (v4 : Int32) (v5 : Int32) : Option (Int32 × pb_HP) :=
  if pb_is h v0 8 then ((pb_R h v0 0).bind fun q2 => (if pb_is h q2 0 then ((f_2 h q2 v1).bind fun h5 => (if pb_is h5 v0 8 then (if ¬ v5 = 0 then ((pb_wl (f_115_47s N v0 v2 v4) N (((-2), (-1), 0, pb_pI (pb_pI (pb_pI h5 v0 2 v2) v0 3 v3) v0 4 v4))).bind fun e16 => (some ((e16.1, e16.2)))) else ((f_rec117 N 6 (pb_pI (pb_pI (pb_pI h5 v0 2 v2) v0 3 v3) v0 4 v4) v0 0 ((-1)) 1).bind fun (r17, h18) => (some ((r17, h18))))) else none)) else none)) else none
set_option maxRecDepth 4000 in
theorem l_115 {xs : List Int32} {d : Nat} {N : Nat} {h : pb_HP} {v0 : Nat} {v1 : Nat} {v2 : Int32} {v3 : Int32} {v4 : Int32} {v5 : Int32} {r : Int32} {hE : pb_HP} (hf : f_115 N h v0 v1 v2 v3 v4 v5 = some ((r, hE))) : pb_AR xs (d + 24) 115 h [.ref v0, .ref v1, .int v2, .int v3, .int v4, .int v5] (some (.int r)) hE := by
  intro G hG
  have hc_ : pb_CODE 115 = kc_115 := rfl
  rw [hc_] at hG
  have hl_47 : ∀ (v0 : Nat) (v2 : Int32) (v4 : Int32) (n_ : Nat) (s : Int32 × Int32 × Int32 × pb_HP) (e : Int32 × pb_HP), pb_wl (f_115_47s N v0 v2 v4) n_ s = some e → G 112 [(7, .int e.1)] [] e.2 → G 47 [(0, .ref v0), (2, .int v2), (4, .int v4), (6, .int s.1), (7, .int s.2.1), (8, .int s.2.2.1)] [] s.2.2.2 := by
    intro v0 v2 v4
    refine pb_wl_ind (I := fun (s : Int32 × Int32 × Int32 × pb_HP) => G 47 [(0, .ref v0), (2, .int v2), (4, .int v4), (6, .int s.1), (7, .int s.2.1), (8, .int s.2.2.1)] [] s.2.2.2) (K := fun (e : Int32 × pb_HP) => G 112 [(7, .int e.1)] [] e.2) (fun s x hf hk => ?_)
    unfold f_115_47s at hf
    refine hG.1 2 47 kb_115_47 _ _ _ rfl ?_
    refine And.intro (fun (hc15 : 6 < s.2.2.1) => ?_) (fun (hc15 : ¬ (6 < s.2.2.1)) => ?_)
    · rw [if_pos hc15] at hf
      cases hf
      exact hG.2 112 _ [4] _ _ _ rfl hk
    · rw [if_neg hc15] at hf
      refine And.intro (fun (hc14 : v4 ≤ 0) => ?_) (fun (hc14 : ¬ (v4 ≤ 0)) => ?_)
      · rw [if_pos hc14] at hf
        cases hf
        exact hG.2 112 _ [4] _ _ _ rfl hk
      · rw [if_neg hc14] at hf
        refine And.intro (fun (hc13 : 1 ≤ s.1) => ?_) (fun (hc13 : ¬ (1 ≤ s.1)) => ?_)
        · rw [if_pos hc13] at hf
          cases hf
          exact hG.2 112 _ [4] _ _ _ rfl hk
        · rw [if_neg hc13] at hf
          obtain ⟨hg7, hf⟩ := pb_gd hf
          obtain ⟨r8, cr8, hf⟩ := Option.bind_eq_some_iff.mp hf
          refine And.intro hg7 (And.intro (Nat.le_of_ble_eq_true rfl) (And.intro (Nat.le_of_ble_eq_true rfl) (Exists.intro (some (.int r8)) (Exists.intro _ (And.intro (l_116 cr8) (?_))))))
          refine And.intro (fun (hc12 : r8 = 0) => ?_) (fun (hc12 : ¬ (r8 = 0)) => ?_)
          · rw [if_pos hc12] at hf
            refine hG.1 3 106 kb_115_106 _ _ _ rfl ?_
            cases hf
            exact hk
          · rw [if_neg hc12] at hf
            refine And.intro (Nat.le_of_ble_eq_true rfl) (?_)
            obtain ⟨⟨r9, h10⟩, cr9, hf⟩ := Option.bind_eq_some_iff.mp hf
            try dsimp only at hf
            refine And.intro hg7 (And.intro (Nat.le_of_ble_eq_true rfl) (And.intro (Nat.le_of_ble_eq_true rfl) (Exists.intro (some (.int r9)) (Exists.intro _ (And.intro (l_118 (fun e_ => l_117c e_) cr9) (?_))))))
            refine And.intro (fun (hc11 : r9 ≤ s.1) => ?_) (fun (hc11 : ¬ (r9 ≤ s.1)) => ?_)
            · rw [if_pos hc11] at hf
              refine hG.1 3 106 kb_115_106 _ _ _ rfl ?_
              cases hf
              exact hG.2 47 _ [0, 1, 2, 3, 4, 5] _ _ _ rfl hk
            · rw [if_neg hc11] at hf
              refine hG.1 3 106 kb_115_106 _ _ _ rfl ?_
              cases hf
              exact hG.2 47 _ [0, 1, 2, 3, 4, 5] _ _ _ rfl hk
  unfold f_115 at hf
  refine hG.1 0 0 kb_115_0 _ _ _ rfl ?_
  obtain ⟨hg1, hf⟩ := pb_gd hf
  obtain ⟨q2, eq2, hf⟩ := Option.bind_eq_some_iff.mp hf
  obtain ⟨hg3, hf⟩ := pb_gd hf
  refine And.intro hg1 (Exists.intro q2 (And.intro eq2 (?_)))
  obtain ⟨h5, cr4, hf⟩ := Option.bind_eq_some_iff.mp hf
  refine And.intro hg3 (And.intro (Nat.le_of_ble_eq_true rfl) (And.intro (Nat.le_of_ble_eq_true rfl) (Exists.intro none (Exists.intro _ (And.intro (l_2 cr4) (?_))))))
  obtain ⟨hg6, hf⟩ := pb_gd hf
  refine And.intro hg6 (And.intro hg6 (And.intro hg6 (?_)))
  refine And.intro (fun (hc19 : ¬ v5 = 0) => ?_) (fun (hc19 : ¬ (¬ v5 = 0)) => ?_)
  · rw [if_pos hc19] at hf
    refine hG.1 1 37 kb_115_37 _ _ _ rfl ?_
    obtain ⟨e16, he_e16, hf⟩ := Option.bind_eq_some_iff.mp hf
    refine hG.2 47 _ [0, 2, 4, 6, 7, 8] _ _ _ rfl ?_
    refine hl_47 _ _ _ _ _ _ he_e16 ?_
    refine hG.1 4 112 kb_115_112 _ _ _ rfl ?_
    cases hf
    exact And.intro (fun z_ => absurd z_ (by decide)) (And.intro rfl rfl)
  · rw [if_neg hc19] at hf
    obtain ⟨⟨r17, h18⟩, cr17, hf⟩ := Option.bind_eq_some_iff.mp hf
    try dsimp only at hf
    refine And.intro hg6 (And.intro (Nat.le_of_ble_eq_true rfl) (And.intro (Nat.le_of_ble_eq_true rfl) (Exists.intro (some (.int r17)) (Exists.intro _ (And.intro (l_117c cr17) (?_))))))
    cases hf
    exact And.intro (fun z_ => absurd z_ (by decide)) (And.intro rfl rfl)
/-- PointedBench.rivals -/
def f_137 (N : Nat) (h : pb_HP) (v0 : Nat) (v1 : Int32) (v2 : Int32) (v3 : Int32) (v4 : Int32) (v5 : Int32) : Option (Int32 × pb_HP) :=
  if pb_is h v0 10 then ((pb_R h v0 0).bind fun q2 => (if pb_is h q2 7 then ((f_105 h q2 v1).bind fun r4 => (match r4 with | none => (some (((-9), h))) | some q5 => (if pb_is h q5 0 then ((f_3 h q5 v2).bind fun r7 => (if r7 = 0 then (some (((-9), h))) else ((f_3 h q5 v3).bind fun r8 => (if r8 = 0 then (some (((-9), h))) else (if v2 = v3 then (some (((-9), h))) else (if v4 < 0 then (some (((-9), h))) else (if v4 ≤ 4 then ((pb_R h v0 5).bind fun q9 => (if pb_is h q9 8 then ((f_115 N h q9 q5 v2 v3 v4 v5).bind fun (r11, h12) => (some ((r11, h12)))) else none)) else (some (((-9), h)))))))))) else none))) else none)) else none
set_option maxRecDepth 4000 in
theorem l_137 {xs : List Int32} {d : Nat} {N : Nat} {h : pb_HP} {v0 : Nat} {v1 : Int32} {v2 : Int32} {v3 : Int32} {v4 : Int32} {v5 : Int32} {r : Int32} {hE : pb_HP} (hf : f_137 N h v0 v1 v2 v3 v4 v5 = some ((r, hE))) : pb_AR xs (d + 25) 137 h [.ref v0, .int v1, .int v2, .int v3, .int v4, .int v5] (some (.int r)) hE := by
  intro G hG
  have hc_ : pb_CODE 137 = kc_137 := rfl
  rw [hc_] at hG
  unfold f_137 at hf
  refine hG.1 0 0 kb_137_0 _ _ _ rfl ?_
  obtain ⟨hg1, hf⟩ := pb_gd hf
  obtain ⟨q2, eq2, hf⟩ := Option.bind_eq_some_iff.mp hf
  obtain ⟨hg3, hf⟩ := pb_gd hf
  refine And.intro hg1 (Exists.intro q2 (And.intro eq2 (?_)))
  obtain ⟨r4, cr4, hf⟩ := Option.bind_eq_some_iff.mp hf
  refine And.intro hg3 (And.intro (Nat.le_of_ble_eq_true rfl) (And.intro (Nat.le_of_ble_eq_true rfl) (Exists.intro (some (pb_rv r4)) (Exists.intro _ (And.intro (l_105 cr4) (?_))))))
  cases r4 with
  | none =>
    try dsimp only at hf
    refine hG.1 1 49 kb_137_49 _ _ _ rfl ?_
    cases hf
    exact And.intro (fun z_ => absurd z_ (by decide)) (And.intro rfl rfl)
  | some q5 =>
    try dsimp only at hf
    obtain ⟨hg6, hf⟩ := pb_gd hf
    obtain ⟨r7, cr7, hf⟩ := Option.bind_eq_some_iff.mp hf
    refine And.intro hg6 (And.intro (Nat.le_of_ble_eq_true rfl) (And.intro (Nat.le_of_ble_eq_true rfl) (Exists.intro (some (.int r7)) (Exists.intro _ (And.intro (l_3 cr7) (?_))))))
    refine And.intro (fun (hc17 : r7 = 0) => ?_) (fun (hc17 : ¬ (r7 = 0)) => ?_)
    · rw [if_pos hc17] at hf
      refine hG.1 1 49 kb_137_49 _ _ _ rfl ?_
      cases hf
      exact And.intro (fun z_ => absurd z_ (by decide)) (And.intro rfl rfl)
    · rw [if_neg hc17] at hf
      obtain ⟨r8, cr8, hf⟩ := Option.bind_eq_some_iff.mp hf
      refine And.intro hg6 (And.intro (Nat.le_of_ble_eq_true rfl) (And.intro (Nat.le_of_ble_eq_true rfl) (Exists.intro (some (.int r8)) (Exists.intro _ (And.intro (l_3 cr8) (?_))))))
      refine And.intro (fun (hc16 : r8 = 0) => ?_) (fun (hc16 : ¬ (r8 = 0)) => ?_)
      · rw [if_pos hc16] at hf
        refine hG.1 1 49 kb_137_49 _ _ _ rfl ?_
        cases hf
        exact And.intro (fun z_ => absurd z_ (by decide)) (And.intro rfl rfl)
      · rw [if_neg hc16] at hf
        refine And.intro (fun (hc15 : v2 = v3) => ?_) (fun (hc15 : ¬ (v2 = v3)) => ?_)
        · rw [if_pos hc15] at hf
          refine hG.1 1 49 kb_137_49 _ _ _ rfl ?_
          cases hf
          exact And.intro (fun z_ => absurd z_ (by decide)) (And.intro rfl rfl)
        · rw [if_neg hc15] at hf
          refine And.intro (fun (hc14 : v4 < 0) => ?_) (fun (hc14 : ¬ (v4 < 0)) => ?_)
          · rw [if_pos hc14] at hf
            refine hG.1 1 49 kb_137_49 _ _ _ rfl ?_
            cases hf
            exact And.intro (fun z_ => absurd z_ (by decide)) (And.intro rfl rfl)
          · rw [if_neg hc14] at hf
            refine And.intro (fun (hc13 : v4 ≤ 4) => ?_) (fun (hc13 : ¬ (v4 ≤ 4)) => ?_)
            · rw [if_pos hc13] at hf
              refine hG.1 2 52 kb_137_52 _ _ _ rfl ?_
              obtain ⟨q9, eq9, hf⟩ := Option.bind_eq_some_iff.mp hf
              obtain ⟨hg10, hf⟩ := pb_gd hf
              refine And.intro hg1 (Exists.intro q9 (And.intro eq9 (?_)))
              obtain ⟨⟨r11, h12⟩, cr11, hf⟩ := Option.bind_eq_some_iff.mp hf
              try dsimp only at hf
              refine And.intro hg10 (And.intro (Nat.le_of_ble_eq_true rfl) (And.intro (Nat.le_of_ble_eq_true rfl) (Exists.intro (some (.int r11)) (Exists.intro _ (And.intro (l_115 cr11) (?_))))))
              cases hf
              exact And.intro (fun z_ => absurd z_ (by decide)) (And.intro rfl rfl)
            · rw [if_neg hc13] at hf
              refine hG.1 1 49 kb_137_49 _ _ _ rfl ?_
              cases hf
              exact And.intro (fun z_ => absurd z_ (by decide)) (And.intro rfl rfl)
