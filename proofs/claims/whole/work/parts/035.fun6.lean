def f_29_2s (N : Nat) (v0 : Nat) (v1 : Nat) (v2 : Int32) (s : Int32 × pb_HP) : Option ((Int32 × pb_HP) ⊕ ((Int32 × pb_HP) ⊕ (pb_HP))) :=
  if v2 ≤ s.1 then (some (.inr (.inr s.2))) else (if pb_is s.2 v0 1 then ((f_30 N s.2 v0 v1 s.1).bind fun (r2, h3) => (if ¬ r2 = 0 then (some (.inl ((s.1 + 1, h3)))) else (some (.inr (.inl ((s.1, h3))))))) else none)
/-- Course.follow -/
def f_29 (N : Nat) (h : pb_HP) (v0 : Nat) (v1 : Nat) (v2 : Int32) : Option (Int32 × pb_HP) :=
  (pb_wl (f_29_2s N v0 v1 v2) N ((0, h))).bind fun e6 => (match e6 with | .inl q8 => some q8 | .inr x7 => some ((v2, x7)))
set_option maxRecDepth 4000 in
theorem l_29 {xs : List Int32} {d : Nat} {N : Nat} {h : pb_HP} {v0 : Nat} {v1 : Nat} {v2 : Int32} {r : Int32} {hE : pb_HP} (hf : f_29 N h v0 v1 v2 = some ((r, hE))) : pb_AR xs (d + 6) 29 h [.ref v0, .ref v1, .int v2] (some (.int r)) hE := by
  intro G hG
  have hc_ : pb_CODE 29 = kc_29 := rfl
  rw [hc_] at hG
  have hl_2 : ∀ (v0 : Nat) (v1 : Nat) (v2 : Int32) (n_ : Nat) (s : Int32 × pb_HP) (e : (Int32 × pb_HP) ⊕ (pb_HP)), pb_wl (f_29_2s N v0 v1 v2) n_ s = some e → pb_kk (fun (q_ : Int32 × pb_HP) => q_ = (r, hE)) (fun (x_ : pb_HP) => G 24 [(2, .int v2)] [] x_) e → G 2 [(0, .ref v0), (1, .ref v1), (2, .int v2), (3, .int s.1)] [] s.2 := by
    intro v0 v1 v2
    refine pb_wl_ind (I := fun (s : Int32 × pb_HP) => G 2 [(0, .ref v0), (1, .ref v1), (2, .int v2), (3, .int s.1)] [] s.2) (K := fun (e : (Int32 × pb_HP) ⊕ (pb_HP)) => pb_kk (fun (q_ : Int32 × pb_HP) => q_ = (r, hE)) (fun (x_ : pb_HP) => G 24 [(2, .int v2)] [] x_) e) (fun s x hf hk => ?_)
    unfold f_29_2s at hf
    refine hG.1 1 2 kb_29_2 _ _ _ rfl ?_
    refine And.intro (fun (hc5 : v2 ≤ s.1) => ?_) (fun (hc5 : ¬ (v2 ≤ s.1)) => ?_)
    · rw [if_pos hc5] at hf
      cases hf
      exact hG.2 24 _ [2] _ _ _ rfl hk
    · rw [if_neg hc5] at hf
      obtain ⟨hg1, hf⟩ := pb_gd hf
      obtain ⟨⟨r2, h3⟩, cr2, hf⟩ := Option.bind_eq_some_iff.mp hf
      try dsimp only at hf
      refine And.intro hg1 (And.intro (Nat.le_of_ble_eq_true rfl) (And.intro (Nat.le_of_ble_eq_true rfl) (Exists.intro (some (.int r2)) (Exists.intro _ (And.intro (l_30 cr2) (?_))))))
      refine And.intro (fun (hc4 : ¬ r2 = 0) => ?_) (fun (hc4 : ¬ (¬ r2 = 0)) => ?_)
      · rw [if_pos hc4] at hf
        refine hG.1 2 18 kb_29_18 _ _ _ rfl ?_
        cases hf
        exact hk
      · rw [if_neg hc4] at hf
        cases hf
        cases hk
        exact And.intro (fun z_ => absurd z_ (by decide)) (And.intro rfl rfl)
  unfold f_29 at hf
  refine hG.1 0 0 kb_29_0 _ _ _ rfl ?_
  obtain ⟨e6, he_e6, hf⟩ := Option.bind_eq_some_iff.mp hf
  refine hl_2 _ _ _ _ _ _ he_e6 ?_
  cases e6 with
  | inl q8 =>
    exact Option.some.inj hf
  | inr x7 =>
    try dsimp only at hf
    refine hG.1 3 24 kb_29_24 _ _ _ rfl ?_
    cases hf
    exact And.intro (fun z_ => absurd z_ (by decide)) (And.intro rfl rfl)
def f_39_7s (N : Nat) (v0 : Nat) (v2 : Int32) (s : Int32 × pb_HP) : Option ((Int32 × pb_HP) ⊕ (pb_HP)) :=
  if v2 ≤ s.1 then (some (.inr s.2)) else (if pb_is s.2 v0 1 then ((f_41 N s.2 v0).bind fun h4 => (some (.inl ((s.1 + 1, h4))))) else none)
/-- Course.draw -/
def f_39 (N : Nat) (h : pb_HP) (v0 : Nat) (v1 : Int32) (v2 : Int32) : Option (pb_HP) :=
  if pb_is h v0 1 then ((pb_wl (f_39_7s N v0 v2) N ((0, pb_pI h v0 8 v1))).bind fun e6 => (some e6)) else none
set_option maxRecDepth 4000 in
theorem l_39 {xs : List Int32} {d : Nat} {N : Nat} {h : pb_HP} {v0 : Nat} {v1 : Int32} {v2 : Int32} {hE : pb_HP} (hf : f_39 N h v0 v1 v2 = some hE) : pb_AR xs (d + 6) 39 h [.ref v0, .int v1, .int v2] none hE := by
  intro G hG
  have hc_ : pb_CODE 39 = kc_39 := rfl
  rw [hc_] at hG
  have hl_7 : ∀ (v0 : Nat) (v2 : Int32) (n_ : Nat) (s : Int32 × pb_HP) (e : pb_HP), pb_wl (f_39_7s N v0 v2) n_ s = some e → G 22 [] [] e → G 7 [(0, .ref v0), (2, .int v2), (3, .int s.1)] [] s.2 := by
    intro v0 v2
    refine pb_wl_ind (I := fun (s : Int32 × pb_HP) => G 7 [(0, .ref v0), (2, .int v2), (3, .int s.1)] [] s.2) (K := fun (e : pb_HP) => G 22 [] [] e) (fun s x hf hk => ?_)
    unfold f_39_7s at hf
    refine hG.1 1 7 kb_39_7 _ _ _ rfl ?_
    refine And.intro (fun (hc5 : v2 ≤ s.1) => ?_) (fun (hc5 : ¬ (v2 ≤ s.1)) => ?_)
    · rw [if_pos hc5] at hf
      cases hf
      exact hG.2 22 _ [] _ _ _ rfl hk
    · rw [if_neg hc5] at hf
      obtain ⟨hg2, hf⟩ := pb_gd hf
      obtain ⟨h4, cr3, hf⟩ := Option.bind_eq_some_iff.mp hf
      refine And.intro hg2 (And.intro (Nat.le_of_ble_eq_true rfl) (And.intro (Nat.le_of_ble_eq_true rfl) (Exists.intro none (Exists.intro _ (And.intro (l_41 cr3) (?_))))))
      cases hf
      exact hk
  unfold f_39 at hf
  refine hG.1 0 0 kb_39_0 _ _ _ rfl ?_
  obtain ⟨hg1, hf⟩ := pb_gd hf
  refine And.intro hg1 (?_)
  obtain ⟨e6, he_e6, hf⟩ := Option.bind_eq_some_iff.mp hf
  refine hG.2 7 _ [0, 2, 3] _ _ _ rfl ?_
  refine hl_7 _ _ _ _ _ he_e6 ?_
  refine hG.1 2 22 kb_39_22 _ _ _ rfl ?_
  cases hf
  exact And.intro rfl rfl
def f_42_2s (N : Nat) (v0 : Nat) (v1 : Nat) (s : Int32 × pb_HP) : Option ((Int32 × pb_HP) ⊕ ((Int32 × pb_HP) ⊕ (pb_HP))) :=
  if pb_is s.2 v1 4 then (if (pb_I s.2 v1 0) ≤ s.1 then (some (.inr (.inr s.2))) else (if pb_is s.2 v0 1 then ((f_30 N s.2 v0 v1 s.1).bind fun (r3, h4) => (if r3 = 0 then (some (.inr (.inr h4))) else (if pb_is h4 v0 1 then (if (pb_I h4 v0 5) = 6 then (some (.inl ((s.1 + 1, h4)))) else (some (.inr (.inl ((s.1, h4)))))) else none))) else none)) else none
/-- Course.firstReign -/
def f_42 (N : Nat) (h : pb_HP) (v0 : Nat) (v1 : Nat) : Option (Int32 × pb_HP) :=
  (pb_wl (f_42_2s N v0 v1) N ((0, h))).bind fun e9 => (match e9 with | .inl q11 => some q11 | .inr x10 => some (((-1), x10)))
set_option maxRecDepth 4000 in
theorem l_42 {xs : List Int32} {d : Nat} {N : Nat} {h : pb_HP} {v0 : Nat} {v1 : Nat} {r : Int32} {hE : pb_HP} (hf : f_42 N h v0 v1 = some ((r, hE))) : pb_AR xs (d + 6) 42 h [.ref v0, .ref v1] (some (.int r)) hE := by
  intro G hG
  have hc_ : pb_CODE 42 = kc_42 := rfl
  rw [hc_] at hG
  have hl_2 : ∀ (v0 : Nat) (v1 : Nat) (n_ : Nat) (s : Int32 × pb_HP) (e : (Int32 × pb_HP) ⊕ (pb_HP)), pb_wl (f_42_2s N v0 v1) n_ s = some e → pb_kk (fun (q_ : Int32 × pb_HP) => q_ = (r, hE)) (fun (x_ : pb_HP) => G 36 [] [] x_) e → G 2 [(0, .ref v0), (1, .ref v1), (2, .int s.1)] [] s.2 := by
    intro v0 v1
    refine pb_wl_ind (I := fun (s : Int32 × pb_HP) => G 2 [(0, .ref v0), (1, .ref v1), (2, .int s.1)] [] s.2) (K := fun (e : (Int32 × pb_HP) ⊕ (pb_HP)) => pb_kk (fun (q_ : Int32 × pb_HP) => q_ = (r, hE)) (fun (x_ : pb_HP) => G 36 [] [] x_) e) (fun s x hf hk => ?_)
    unfold f_42_2s at hf
    refine hG.1 1 2 kb_42_2 _ _ _ rfl ?_
    obtain ⟨hg1, hf⟩ := pb_gd hf
    refine And.intro hg1 (?_)
    refine And.intro (fun (hc8 : (pb_I s.2 v1 0) ≤ s.1) => ?_) (fun (hc8 : ¬ ((pb_I s.2 v1 0) ≤ s.1)) => ?_)
    · rw [if_pos hc8] at hf
      cases hf
      exact hG.2 36 _ [] _ _ _ rfl hk
    · rw [if_neg hc8] at hf
      obtain ⟨hg2, hf⟩ := pb_gd hf
      obtain ⟨⟨r3, h4⟩, cr3, hf⟩ := Option.bind_eq_some_iff.mp hf
      try dsimp only at hf
      refine And.intro hg2 (And.intro (Nat.le_of_ble_eq_true rfl) (And.intro (Nat.le_of_ble_eq_true rfl) (Exists.intro (some (.int r3)) (Exists.intro _ (And.intro (l_30 cr3) (?_))))))
      refine And.intro (fun (hc7 : r3 = 0) => ?_) (fun (hc7 : ¬ (r3 = 0)) => ?_)
      · rw [if_pos hc7] at hf
        cases hf
        exact hG.2 36 _ [] _ _ _ rfl hk
      · rw [if_neg hc7] at hf
        obtain ⟨hg5, hf⟩ := pb_gd hf
        refine And.intro hg5 (?_)
        refine And.intro (fun (hc6 : (pb_I h4 v0 5) = 6) => ?_) (fun (hc6 : ¬ ((pb_I h4 v0 5) = 6)) => ?_)
        · rw [if_pos hc6] at hf
          refine hG.1 2 30 kb_42_30 _ _ _ rfl ?_
          cases hf
          exact hk
        · rw [if_neg hc6] at hf
          cases hf
          cases hk
          exact And.intro (fun z_ => absurd z_ (by decide)) (And.intro rfl rfl)
  unfold f_42 at hf
  refine hG.1 0 0 kb_42_0 _ _ _ rfl ?_
  obtain ⟨e9, he_e9, hf⟩ := Option.bind_eq_some_iff.mp hf
  refine hl_2 _ _ _ _ _ he_e9 ?_
  cases e9 with
  | inl q11 =>
    exact Option.some.inj hf
  | inr x10 =>
    try dsimp only at hf
    refine hG.1 3 36 kb_42_36 _ _ _ rfl ?_
    cases hf
    exact And.intro (fun z_ => absurd z_ (by decide)) (And.intro rfl rfl)
def f_43_10s (N : Nat) (v0 : Nat) (v1 : Nat) (s : Int32 × Int32 × Int32 × pb_HP) : Option ((Int32 × Int32 × Int32 × pb_HP) ⊕ (Int32 × pb_HP)) :=
  if pb_is s.2.2.2 v1 4 then (if (pb_I s.2.2.2 v1 0) ≤ s.2.2.1 then (some (.inr ((s.1, s.2.2.2)))) else (if pb_is s.2.2.2 v0 1 then ((f_30 N s.2.2.2 v0 v1 s.2.2.1).bind fun (r4, h5) => (if r4 = 0 then (some (.inr ((s.1, h5)))) else (if pb_is h5 v0 1 then (if (pb_I h5 v0 5) = s.2.1 then (some (.inl ((s.1, s.2.1, s.2.2.1 + 1, h5)))) else (some (.inl ((s.1 + 1, pb_I h5 v0 5, s.2.2.1 + 1, h5))))) else none))) else none)) else none
/-- Course.changes -/
def f_43 (N : Nat) (h : pb_HP) (v0 : Nat) (v1 : Nat) : Option (Int32 × pb_HP) :=
  if pb_is h v0 1 then ((pb_wl (f_43_10s N v0 v1) N ((0, pb_I h v0 5, 0, h))).bind fun e10 => (some ((e10.1, e10.2)))) else none
set_option maxRecDepth 4000 in
theorem l_43 {xs : List Int32} {d : Nat} {N : Nat} {h : pb_HP} {v0 : Nat} {v1 : Nat} {r : Int32} {hE : pb_HP} (hf : f_43 N h v0 v1 = some ((r, hE))) : pb_AR xs (d + 6) 43 h [.ref v0, .ref v1] (some (.int r)) hE := by
  intro G hG
  have hc_ : pb_CODE 43 = kc_43 := rfl
  rw [hc_] at hG
  have hl_10 : ∀ (v0 : Nat) (v1 : Nat) (n_ : Nat) (s : Int32 × Int32 × Int32 × pb_HP) (e : Int32 × pb_HP), pb_wl (f_43_10s N v0 v1) n_ s = some e → G 51 [(2, .int e.1)] [] e.2 → G 10 [(0, .ref v0), (1, .ref v1), (2, .int s.1), (3, .int s.2.1), (4, .int s.2.2.1)] [] s.2.2.2 := by
    intro v0 v1
    refine pb_wl_ind (I := fun (s : Int32 × Int32 × Int32 × pb_HP) => G 10 [(0, .ref v0), (1, .ref v1), (2, .int s.1), (3, .int s.2.1), (4, .int s.2.2.1)] [] s.2.2.2) (K := fun (e : Int32 × pb_HP) => G 51 [(2, .int e.1)] [] e.2) (fun s x hf hk => ?_)
    unfold f_43_10s at hf
    refine hG.1 1 10 kb_43_10 _ _ _ rfl ?_
    obtain ⟨hg2, hf⟩ := pb_gd hf
    refine And.intro hg2 (?_)
    refine And.intro (fun (hc9 : (pb_I s.2.2.2 v1 0) ≤ s.2.2.1) => ?_) (fun (hc9 : ¬ ((pb_I s.2.2.2 v1 0) ≤ s.2.2.1)) => ?_)
    · rw [if_pos hc9] at hf
      cases hf
      exact hG.2 51 _ [2] _ _ _ rfl hk
    · rw [if_neg hc9] at hf
      obtain ⟨hg3, hf⟩ := pb_gd hf
      obtain ⟨⟨r4, h5⟩, cr4, hf⟩ := Option.bind_eq_some_iff.mp hf
      try dsimp only at hf
      refine And.intro hg3 (And.intro (Nat.le_of_ble_eq_true rfl) (And.intro (Nat.le_of_ble_eq_true rfl) (Exists.intro (some (.int r4)) (Exists.intro _ (And.intro (l_30 cr4) (?_))))))
      refine And.intro (fun (hc8 : r4 = 0) => ?_) (fun (hc8 : ¬ (r4 = 0)) => ?_)
      · rw [if_pos hc8] at hf
        cases hf
        exact hG.2 51 _ [2] _ _ _ rfl hk
      · rw [if_neg hc8] at hf
        obtain ⟨hg6, hf⟩ := pb_gd hf
        refine And.intro hg6 (?_)
        refine And.intro (fun (hc7 : (pb_I h5 v0 5) = s.2.1) => ?_) (fun (hc7 : ¬ ((pb_I h5 v0 5) = s.2.1)) => ?_)
        · rw [if_pos hc7] at hf
          refine hG.1 2 45 kb_43_45 _ _ _ rfl ?_
          cases hf
          exact hk
        · rw [if_neg hc7] at hf
          refine And.intro hg6 (?_)
          refine hG.1 2 45 kb_43_45 _ _ _ rfl ?_
          cases hf
          exact hk
  unfold f_43 at hf
  refine hG.1 0 0 kb_43_0 _ _ _ rfl ?_
  obtain ⟨hg1, hf⟩ := pb_gd hf
  refine And.intro hg1 (?_)
  obtain ⟨e10, he_e10, hf⟩ := Option.bind_eq_some_iff.mp hf
  refine hl_10 _ _ _ _ _ he_e10 ?_
  refine hG.1 3 51 kb_43_51 _ _ _ rfl ?_
  cases hf
  exact And.intro (fun z_ => absurd z_ (by decide)) (And.intro rfl rfl)
def f_44_10s (N : Nat) (v0 : Nat) (v1 : Nat) (s : Int32 × pb_HP) : Option ((Int32 × pb_HP) ⊕ (pb_HP)) :=
  if pb_is s.2 v1 4 then (if (pb_I s.2 v1 0) ≤ s.1 then (some (.inr s.2)) else (if pb_is s.2 v0 1 then ((f_30 N s.2 v0 v1 s.1).bind fun (r7, h8) => (if r7 = 0 then (some (.inr h8)) else (if pb_is h8 v1 4 then ((pb_R h8 v1 1).bind fun q10 => (if pb_ar h8 q10 12 s.1 then (if ¬ (pb_I h8 q10 s.1.toNatClampNeg) = 6 then (some (.inl ((s.1 + 1, h8)))) else (if pb_is h8 v0 1 then (if (pb_I h8 v0 5) = 6 then (some (.inl ((s.1 + 1, h8)))) else ((pb_R h8 v0 2).bind fun q13 => (if pb_ar h8 q13 12 (pb_I h8 v0 5) then (some (.inl ((s.1 + 1, pb_pI h8 q13 (pb_I h8 v0 5).toNatClampNeg ((pb_I h8 q13 (pb_I h8 v0 5).toNatClampNeg) + 1))))) else none))) else none)) else none)) else none))) else none)) else none
def f_44_66 (N : Nat) (h : pb_HP) (v0 : Nat) : Option (Int32 × pb_HP) :=
  if pb_is h v0 1 then ((f_46 N h v0).bind fun r21 => (some ((r21, h)))) else none
/-- Course.longestReign -/
def f_44 (N : Nat) (h : pb_HP) (v0 : Nat) (v1 : Nat) : Option (Int32 × pb_HP) :=
  if pb_is h v0 1 then ((pb_R h v0 2).bind fun q2 => ((f_306 N h q2 0).bind fun h4 => ((pb_wl (f_44_10s N v0 v1) N ((0, h4))).bind fun e19 => (f_44_66 N e19 v0)))) else none
set_option maxRecDepth 4000 in
theorem l_44 {xs : List Int32} {d : Nat} {N : Nat} {h : pb_HP} {v0 : Nat} {v1 : Nat} {r : Int32} {hE : pb_HP} (hf : f_44 N h v0 v1 = some ((r, hE))) : pb_AR xs (d + 6) 44 h [.ref v0, .ref v1] (some (.int r)) hE := by
  intro G hG
  have hc_ : pb_CODE 44 = kc_44 := rfl
  rw [hc_] at hG
  have hl_10 : ∀ (v0 : Nat) (v1 : Nat) (n_ : Nat) (s : Int32 × pb_HP) (e : pb_HP), pb_wl (f_44_10s N v0 v1) n_ s = some e → G 66 [(0, .ref v0)] [] e → G 10 [(0, .ref v0), (1, .ref v1), (2, .int s.1)] [] s.2 := by
    intro v0 v1
    refine pb_wl_ind (I := fun (s : Int32 × pb_HP) => G 10 [(0, .ref v0), (1, .ref v1), (2, .int s.1)] [] s.2) (K := fun (e : pb_HP) => G 66 [(0, .ref v0)] [] e) (fun s x hf hk => ?_)
    unfold f_44_10s at hf
    refine hG.1 1 10 kb_44_10 _ _ _ rfl ?_
    obtain ⟨hg5, hf⟩ := pb_gd hf
    refine And.intro hg5 (?_)
    refine And.intro (fun (hc18 : (pb_I s.2 v1 0) ≤ s.1) => ?_) (fun (hc18 : ¬ ((pb_I s.2 v1 0) ≤ s.1)) => ?_)
    · rw [if_pos hc18] at hf
      cases hf
      exact hG.2 66 _ [0] _ _ _ rfl hk
    · rw [if_neg hc18] at hf
      obtain ⟨hg6, hf⟩ := pb_gd hf
      obtain ⟨⟨r7, h8⟩, cr7, hf⟩ := Option.bind_eq_some_iff.mp hf
      try dsimp only at hf
      refine And.intro hg6 (And.intro (Nat.le_of_ble_eq_true rfl) (And.intro (Nat.le_of_ble_eq_true rfl) (Exists.intro (some (.int r7)) (Exists.intro _ (And.intro (l_30 cr7) (?_))))))
      refine And.intro (fun (hc17 : r7 = 0) => ?_) (fun (hc17 : ¬ (r7 = 0)) => ?_)
      · rw [if_pos hc17] at hf
        cases hf
        exact hG.2 66 _ [0] _ _ _ rfl hk
      · rw [if_neg hc17] at hf
        obtain ⟨hg9, hf⟩ := pb_gd hf
        obtain ⟨q10, eq10, hf⟩ := Option.bind_eq_some_iff.mp hf
        obtain ⟨hg11, hf⟩ := pb_gd hf
        refine And.intro hg9 (Exists.intro q10 (And.intro eq10 (And.intro hg11 (?_))))
        refine And.intro (fun (hc16 : ¬ (pb_I h8 q10 s.1.toNatClampNeg) = 6) => ?_) (fun (hc16 : ¬ (¬ (pb_I h8 q10 s.1.toNatClampNeg) = 6)) => ?_)
        · rw [if_pos hc16] at hf
          refine hG.1 2 60 kb_44_60 _ _ _ rfl ?_
          cases hf
          exact hk
        · rw [if_neg hc16] at hf
          obtain ⟨hg12, hf⟩ := pb_gd hf
          refine And.intro hg12 (?_)
          refine And.intro (fun (hc15 : (pb_I h8 v0 5) = 6) => ?_) (fun (hc15 : ¬ ((pb_I h8 v0 5) = 6)) => ?_)
          · rw [if_pos hc15] at hf
            refine hG.1 2 60 kb_44_60 _ _ _ rfl ?_
            cases hf
            exact hk
          · rw [if_neg hc15] at hf
            obtain ⟨q13, eq13, hf⟩ := Option.bind_eq_some_iff.mp hf
            obtain ⟨hg14, hf⟩ := pb_gd hf
            refine And.intro hg12 (Exists.intro q13 (And.intro eq13 (And.intro hg12 (And.intro hg14 (And.intro hg14 (?_))))))
            refine hG.1 2 60 kb_44_60 _ _ _ rfl ?_
            cases hf
            exact hk
  have hj_66 : ∀ (h : pb_HP) (v0 : Nat), f_44_66 N h v0 = some ((r, hE)) → G 66 [(0, .ref v0)] [] h := by
    intro h v0 hf
    unfold f_44_66 at hf
    refine hG.1 3 66 kb_44_66 _ _ _ rfl ?_
    obtain ⟨hg20, hf⟩ := pb_gd hf
    obtain ⟨r21, cr21, hf⟩ := Option.bind_eq_some_iff.mp hf
    refine And.intro hg20 (And.intro (Nat.le_of_ble_eq_true rfl) (And.intro (Nat.le_of_ble_eq_true rfl) (Exists.intro (some (.int r21)) (Exists.intro _ (And.intro (l_46 cr21) (?_))))))
    cases hf
    exact And.intro (fun z_ => absurd z_ (by decide)) (And.intro rfl rfl)
  unfold f_44 at hf
  refine hG.1 0 0 kb_44_0 _ _ _ rfl ?_
  obtain ⟨hg1, hf⟩ := pb_gd hf
  obtain ⟨q2, eq2, hf⟩ := Option.bind_eq_some_iff.mp hf
  refine And.intro hg1 (Exists.intro q2 (And.intro eq2 (?_)))
  obtain ⟨h4, cr3, hf⟩ := Option.bind_eq_some_iff.mp hf
  refine And.intro (Nat.le_of_ble_eq_true rfl) (And.intro (Nat.le_of_ble_eq_true rfl) (And.intro (Nat.le_of_ble_eq_true rfl) (Exists.intro none (Exists.intro _ (And.intro (l_306 cr3) (?_))))))
  obtain ⟨e19, he_e19, hf⟩ := Option.bind_eq_some_iff.mp hf
  refine hl_10 _ _ _ _ _ he_e19 ?_
  exact hj_66 _ _ hf
def f_45_10s (N : Nat) (v0 : Nat) (v1 : Nat) (s : Int32 × pb_HP) : Option ((Int32 × pb_HP) ⊕ (pb_HP)) :=
  if pb_is s.2 v0 1 then ((pb_R s.2 v0 0).bind fun q6 => (if pb_is s.2 q6 0 then (if (pb_I s.2 q6 1) ≤ s.1 then (some (.inr s.2)) else ((pb_R s.2 v0 3).bind fun q8 => ((f_11 N s.2 q6 s.1 63).bind fun r9 => (if pb_ar s.2 q8 12 s.1 then (some (.inl ((s.1 + 1, pb_pI s.2 q8 s.1.toNatClampNeg r9)))) else none)))) else none)) else none
def f_45_64s (N : Nat) (v0 : Nat) (v1 : Nat) (v2 : Int32) (s : Int32 × pb_HP) : Option ((Int32 × pb_HP) ⊕ (pb_HP)) :=
  if pb_is s.2 v0 1 then ((pb_R s.2 v0 0).bind fun q18 => (if pb_is s.2 q18 0 then (if (pb_I s.2 q18 1) ≤ s.1 then (some (.inr s.2)) else ((f_11 N s.2 q18 s.1 63).bind fun r20 => ((pb_R s.2 v0 3).bind fun q21 => (if pb_ar s.2 q21 12 s.1 then (if r20 = (pb_I s.2 q21 s.1.toNatClampNeg) then (some (.inl ((s.1 + 1, s.2)))) else ((pb_R s.2 v0 2).bind fun q23 => (if pb_ar s.2 q23 12 s.1 then (some (.inl ((s.1 + 1, pb_pI (pb_pI s.2 q21 s.1.toNatClampNeg r20) q23 s.1.toNatClampNeg ((pb_I (pb_pI s.2 q21 s.1.toNatClampNeg r20) q23 s.1.toNatClampNeg) + 1))))) else none))) else none)))) else none)) else none
def f_45_45s (N : Nat) (v0 : Nat) (v1 : Nat) (s : Int32 × pb_HP) : Option ((Int32 × pb_HP) ⊕ (pb_HP)) :=
  if pb_is s.2 v1 4 then (if (pb_I s.2 v1 0) ≤ s.1 then (some (.inr s.2)) else (if pb_is s.2 v0 1 then ((f_30 N s.2 v0 v1 s.1).bind fun (r15, h16) => (if r15 = 0 then (some (.inr h16)) else ((pb_wl (f_45_64s N v0 v1 s.1) N ((0, h16))).bind fun e27 => (some (.inl ((s.1 + 1, e27))))))) else none)) else none
def f_45_128 (N : Nat) (h : pb_HP) (v0 : Nat) : Option (Int32 × pb_HP) :=
  if pb_is h v0 1 then ((f_46 N h v0).bind fun r32 => (some ((r32, h)))) else none
/-- Course.mostFickle -/
def f_45 (N : Nat) (h : pb_HP) (v0 : Nat) (v1 : Nat) : Option (Int32 × pb_HP) :=
  if pb_is h v0 1 then ((pb_R h v0 2).bind fun q2 => ((f_306 N h q2 0).bind fun h4 => ((pb_wl (f_45_10s N v0 v1) N ((0, h4))).bind fun e12 => ((pb_wl (f_45_45s N v0 v1) N ((0, e12))).bind fun e30 => (f_45_128 N e30 v0))))) else none
set_option maxRecDepth 4000 in
theorem l_45 {xs : List Int32} {d : Nat} {N : Nat} {h : pb_HP} {v0 : Nat} {v1 : Nat} {r : Int32} {hE : pb_HP} (hf : f_45 N h v0 v1 = some ((r, hE))) : pb_AR xs (d + 6) 45 h [.ref v0, .ref v1] (some (.int r)) hE := by
  intro G hG
  have hc_ : pb_CODE 45 = kc_45 := rfl
  rw [hc_] at hG
  have hl_10 : ∀ (v0 : Nat) (v1 : Nat) (n_ : Nat) (s : Int32 × pb_HP) (e : pb_HP), pb_wl (f_45_10s N v0 v1) n_ s = some e → G 43 [(0, .ref v0), (1, .ref v1)] [] e → G 10 [(0, .ref v0), (1, .ref v1), (2, .int s.1)] [] s.2 := by
    intro v0 v1
    refine pb_wl_ind (I := fun (s : Int32 × pb_HP) => G 10 [(0, .ref v0), (1, .ref v1), (2, .int s.1)] [] s.2) (K := fun (e : pb_HP) => G 43 [(0, .ref v0), (1, .ref v1)] [] e) (fun s x hf hk => ?_)
    unfold f_45_10s at hf
    refine hG.1 1 10 kb_45_10 _ _ _ rfl ?_
    obtain ⟨hg5, hf⟩ := pb_gd hf
    obtain ⟨q6, eq6, hf⟩ := Option.bind_eq_some_iff.mp hf
    obtain ⟨hg7, hf⟩ := pb_gd hf
    refine And.intro hg5 (Exists.intro q6 (And.intro eq6 (And.intro hg7 (?_))))
    refine And.intro (fun (hc11 : (pb_I s.2 q6 1) ≤ s.1) => ?_) (fun (hc11 : ¬ ((pb_I s.2 q6 1) ≤ s.1)) => ?_)
    · rw [if_pos hc11] at hf
      cases hf
      exact hG.2 43 _ [0, 1] _ _ _ rfl hk
    · rw [if_neg hc11] at hf
      obtain ⟨q8, eq8, hf⟩ := Option.bind_eq_some_iff.mp hf
      refine And.intro hg5 (Exists.intro q8 (And.intro eq8 (And.intro hg5 (Exists.intro q6 (And.intro eq6 (?_))))))
      obtain ⟨r9, cr9, hf⟩ := Option.bind_eq_some_iff.mp hf
      refine And.intro hg7 (And.intro (Nat.le_of_ble_eq_true rfl) (And.intro (Nat.le_of_ble_eq_true rfl) (Exists.intro (some (.int r9)) (Exists.intro _ (And.intro (l_11 cr9) (?_))))))
      obtain ⟨hg10, hf⟩ := pb_gd hf
      refine And.intro hg10 (?_)
      cases hf
      exact hk
  have hl_64 : ∀ (v0 : Nat) (v1 : Nat) (v2 : Int32) (n_ : Nat) (s : Int32 × pb_HP) (e : pb_HP), pb_wl (f_45_64s N v0 v1 v2) n_ s = some e → G 122 [(0, .ref v0), (1, .ref v1), (2, .int v2)] [] e → G 64 [(0, .ref v0), (1, .ref v1), (2, .int v2), (3, .int s.1)] [] s.2 := by
    intro v0 v1 v2
    refine pb_wl_ind (I := fun (s : Int32 × pb_HP) => G 64 [(0, .ref v0), (1, .ref v1), (2, .int v2), (3, .int s.1)] [] s.2) (K := fun (e : pb_HP) => G 122 [(0, .ref v0), (1, .ref v1), (2, .int v2)] [] e) (fun s x hf hk => ?_)
    unfold f_45_64s at hf
    refine hG.1 4 64 kb_45_64 _ _ _ rfl ?_
    obtain ⟨hg17, hf⟩ := pb_gd hf
    obtain ⟨q18, eq18, hf⟩ := Option.bind_eq_some_iff.mp hf
    obtain ⟨hg19, hf⟩ := pb_gd hf
    refine And.intro hg17 (Exists.intro q18 (And.intro eq18 (And.intro hg19 (?_))))
    refine And.intro (fun (hc26 : (pb_I s.2 q18 1) ≤ s.1) => ?_) (fun (hc26 : ¬ ((pb_I s.2 q18 1) ≤ s.1)) => ?_)
    · rw [if_pos hc26] at hf
      cases hf
      exact hG.2 122 _ [0, 1, 2] _ _ _ rfl hk
    · rw [if_neg hc26] at hf
      refine And.intro hg17 (Exists.intro q18 (And.intro eq18 (?_)))
      obtain ⟨r20, cr20, hf⟩ := Option.bind_eq_some_iff.mp hf
      refine And.intro hg19 (And.intro (Nat.le_of_ble_eq_true rfl) (And.intro (Nat.le_of_ble_eq_true rfl) (Exists.intro (some (.int r20)) (Exists.intro _ (And.intro (l_11 cr20) (?_))))))
      obtain ⟨q21, eq21, hf⟩ := Option.bind_eq_some_iff.mp hf
      obtain ⟨hg22, hf⟩ := pb_gd hf
      refine And.intro hg17 (Exists.intro q21 (And.intro eq21 (And.intro hg22 (?_))))
      refine And.intro (fun (hc25 : r20 = (pb_I s.2 q21 s.1.toNatClampNeg)) => ?_) (fun (hc25 : ¬ (r20 = (pb_I s.2 q21 s.1.toNatClampNeg))) => ?_)
      · rw [if_pos hc25] at hf
        refine hG.1 5 116 kb_45_116 _ _ _ rfl ?_
        cases hf
        exact hG.2 64 _ [0, 1, 2, 3] _ _ _ rfl hk
      · rw [if_neg hc25] at hf
        obtain ⟨q23, eq23, hf⟩ := Option.bind_eq_some_iff.mp hf
        obtain ⟨hg24, hf⟩ := pb_gd hf
        refine And.intro hg17 (Exists.intro q21 (And.intro eq21 (And.intro hg22 (And.intro hg17 (Exists.intro q23 (And.intro eq23 (And.intro hg24 (And.intro hg24 (?_)))))))))
        refine hG.1 5 116 kb_45_116 _ _ _ rfl ?_
        cases hf
        exact hG.2 64 _ [0, 1, 2, 3] _ _ _ rfl hk
  have hl_45 : ∀ (v0 : Nat) (v1 : Nat) (n_ : Nat) (s : Int32 × pb_HP) (e : pb_HP), pb_wl (f_45_45s N v0 v1) n_ s = some e → G 128 [(0, .ref v0)] [] e → G 45 [(0, .ref v0), (1, .ref v1), (2, .int s.1)] [] s.2 := by
    intro v0 v1
    refine pb_wl_ind (I := fun (s : Int32 × pb_HP) => G 45 [(0, .ref v0), (1, .ref v1), (2, .int s.1)] [] s.2) (K := fun (e : pb_HP) => G 128 [(0, .ref v0)] [] e) (fun s x hf hk => ?_)
    unfold f_45_45s at hf
    refine hG.1 3 45 kb_45_45 _ _ _ rfl ?_
    obtain ⟨hg13, hf⟩ := pb_gd hf
    refine And.intro hg13 (?_)
    refine And.intro (fun (hc29 : (pb_I s.2 v1 0) ≤ s.1) => ?_) (fun (hc29 : ¬ ((pb_I s.2 v1 0) ≤ s.1)) => ?_)
    · rw [if_pos hc29] at hf
      cases hf
      exact hG.2 128 _ [0] _ _ _ rfl hk
    · rw [if_neg hc29] at hf
      obtain ⟨hg14, hf⟩ := pb_gd hf
      obtain ⟨⟨r15, h16⟩, cr15, hf⟩ := Option.bind_eq_some_iff.mp hf
      try dsimp only at hf
      refine And.intro hg14 (And.intro (Nat.le_of_ble_eq_true rfl) (And.intro (Nat.le_of_ble_eq_true rfl) (Exists.intro (some (.int r15)) (Exists.intro _ (And.intro (l_30 cr15) (?_))))))
      refine And.intro (fun (hc28 : r15 = 0) => ?_) (fun (hc28 : ¬ (r15 = 0)) => ?_)
      · rw [if_pos hc28] at hf
        cases hf
        exact hG.2 128 _ [0] _ _ _ rfl hk
      · rw [if_neg hc28] at hf
        obtain ⟨e27, he_e27, hf⟩ := Option.bind_eq_some_iff.mp hf
        refine hl_64 _ _ _ _ _ _ he_e27 ?_
        refine hG.1 6 122 kb_45_122 _ _ _ rfl ?_
        cases hf
        exact hk
  have hj_128 : ∀ (h : pb_HP) (v0 : Nat), f_45_128 N h v0 = some ((r, hE)) → G 128 [(0, .ref v0)] [] h := by
    intro h v0 hf
    unfold f_45_128 at hf
    refine hG.1 7 128 kb_45_128 _ _ _ rfl ?_
    obtain ⟨hg31, hf⟩ := pb_gd hf
    obtain ⟨r32, cr32, hf⟩ := Option.bind_eq_some_iff.mp hf
    refine And.intro hg31 (And.intro (Nat.le_of_ble_eq_true rfl) (And.intro (Nat.le_of_ble_eq_true rfl) (Exists.intro (some (.int r32)) (Exists.intro _ (And.intro (l_46 cr32) (?_))))))
    cases hf
    exact And.intro (fun z_ => absurd z_ (by decide)) (And.intro rfl rfl)
  unfold f_45 at hf
  refine hG.1 0 0 kb_45_0 _ _ _ rfl ?_
  obtain ⟨hg1, hf⟩ := pb_gd hf
  obtain ⟨q2, eq2, hf⟩ := Option.bind_eq_some_iff.mp hf
  refine And.intro hg1 (Exists.intro q2 (And.intro eq2 (?_)))
  obtain ⟨h4, cr3, hf⟩ := Option.bind_eq_some_iff.mp hf
  refine And.intro (Nat.le_of_ble_eq_true rfl) (And.intro (Nat.le_of_ble_eq_true rfl) (And.intro (Nat.le_of_ble_eq_true rfl) (Exists.intro none (Exists.intro _ (And.intro (l_306 cr3) (?_))))))
  obtain ⟨e12, he_e12, hf⟩ := Option.bind_eq_some_iff.mp hf
  refine hl_10 _ _ _ _ _ he_e12 ?_
  refine hG.1 2 43 kb_45_43 _ _ _ rfl ?_
  obtain ⟨e30, he_e30, hf⟩ := Option.bind_eq_some_iff.mp hf
  refine hl_45 _ _ _ _ _ he_e30 ?_
  exact hj_128 _ _ hf
def f_47_12s (N : Nat) (v0 : Nat) (v1 : Nat) (v2 : Int32) (s : Int32 × Int32 × Int32 × pb_HP) : Option ((Int32 × Int32 × Int32 × pb_HP) ⊕ (Int32 × pb_HP)) :=
  if pb_is s.2.2.2 v1 4 then (if (pb_I s.2.2.2 v1 0) ≤ s.2.2.1 then (some (.inr ((s.1, s.2.2.2)))) else (if pb_is s.2.2.2 v0 1 then ((f_30 N s.2.2.2 v0 v1 s.2.2.1).bind fun (r5, h6) => (if r5 = 0 then (some (.inr ((s.1, h6)))) else (if pb_is h6 v0 1 then ((f_48 N h6 v0 v2).bind fun r8 => (if pb_is h6 v1 4 then ((pb_R h6 v1 1).bind fun q10 => (if pb_ar h6 q10 12 s.2.2.1 then (if ¬ (pb_I h6 q10 s.2.2.1.toNatClampNeg) = v2 then (some (.inl ((s.1, r8, s.2.2.1 + 1, h6)))) else (if r8 ≤ s.2.1 then (some (.inl ((s.1, r8, s.2.2.1 + 1, h6)))) else (some (.inl ((s.1 + 1, r8, s.2.2.1 + 1, h6)))))) else none)) else none)) else none))) else none)) else none
/-- Course.gains -/
def f_47 (N : Nat) (h : pb_HP) (v0 : Nat) (v1 : Nat) (v2 : Int32) : Option (Int32 × pb_HP) :=
  if pb_is h v0 1 then ((f_48 N h v0 v2).bind fun r2 => ((pb_wl (f_47_12s N v0 v1 v2) N ((0, r2, 0, h))).bind fun e16 => (some ((e16.1, e16.2))))) else none
set_option maxRecDepth 4000 in
theorem l_47 {xs : List Int32} {d : Nat} {N : Nat} {h : pb_HP} {v0 : Nat} {v1 : Nat} {v2 : Int32} {r : Int32} {hE : pb_HP} (hf : f_47 N h v0 v1 v2 = some ((r, hE))) : pb_AR xs (d + 6) 47 h [.ref v0, .ref v1, .int v2] (some (.int r)) hE := by
  intro G hG
  have hc_ : pb_CODE 47 = kc_47 := rfl
  rw [hc_] at hG
  have hl_12 : ∀ (v0 : Nat) (v1 : Nat) (v2 : Int32) (n_ : Nat) (s : Int32 × Int32 × Int32 × pb_HP) (e : Int32 × pb_HP), pb_wl (f_47_12s N v0 v1 v2) n_ s = some e → G 69 [(3, .int e.1)] [] e.2 → G 12 [(0, .ref v0), (1, .ref v1), (2, .int v2), (3, .int s.1), (4, .int s.2.1), (5, .int s.2.2.1)] [] s.2.2.2 := by
    intro v0 v1 v2
    refine pb_wl_ind (I := fun (s : Int32 × Int32 × Int32 × pb_HP) => G 12 [(0, .ref v0), (1, .ref v1), (2, .int v2), (3, .int s.1), (4, .int s.2.1), (5, .int s.2.2.1)] [] s.2.2.2) (K := fun (e : Int32 × pb_HP) => G 69 [(3, .int e.1)] [] e.2) (fun s x hf hk => ?_)
    unfold f_47_12s at hf
    refine hG.1 1 12 kb_47_12 _ _ _ rfl ?_
    obtain ⟨hg3, hf⟩ := pb_gd hf
    refine And.intro hg3 (?_)
    refine And.intro (fun (hc15 : (pb_I s.2.2.2 v1 0) ≤ s.2.2.1) => ?_) (fun (hc15 : ¬ ((pb_I s.2.2.2 v1 0) ≤ s.2.2.1)) => ?_)
    · rw [if_pos hc15] at hf
      cases hf
      exact hG.2 69 _ [3] _ _ _ rfl hk
    · rw [if_neg hc15] at hf
      obtain ⟨hg4, hf⟩ := pb_gd hf
      obtain ⟨⟨r5, h6⟩, cr5, hf⟩ := Option.bind_eq_some_iff.mp hf
      try dsimp only at hf
      refine And.intro hg4 (And.intro (Nat.le_of_ble_eq_true rfl) (And.intro (Nat.le_of_ble_eq_true rfl) (Exists.intro (some (.int r5)) (Exists.intro _ (And.intro (l_30 cr5) (?_))))))
      refine And.intro (fun (hc14 : r5 = 0) => ?_) (fun (hc14 : ¬ (r5 = 0)) => ?_)
      · rw [if_pos hc14] at hf
        cases hf
        exact hG.2 69 _ [3] _ _ _ rfl hk
      · rw [if_neg hc14] at hf
        obtain ⟨hg7, hf⟩ := pb_gd hf
        obtain ⟨r8, cr8, hf⟩ := Option.bind_eq_some_iff.mp hf
        refine And.intro hg7 (And.intro (Nat.le_of_ble_eq_true rfl) (And.intro (Nat.le_of_ble_eq_true rfl) (Exists.intro (some (.int r8)) (Exists.intro _ (And.intro (l_48 cr8) (?_))))))
        obtain ⟨hg9, hf⟩ := pb_gd hf
        obtain ⟨q10, eq10, hf⟩ := Option.bind_eq_some_iff.mp hf
        obtain ⟨hg11, hf⟩ := pb_gd hf
        refine And.intro hg9 (Exists.intro q10 (And.intro eq10 (And.intro hg11 (?_))))
        refine And.intro (fun (hc13 : ¬ (pb_I h6 q10 s.2.2.1.toNatClampNeg) = v2) => ?_) (fun (hc13 : ¬ (¬ (pb_I h6 q10 s.2.2.1.toNatClampNeg) = v2)) => ?_)
        · rw [if_pos hc13] at hf
          refine hG.1 2 59 kb_47_59 _ _ _ rfl ?_
          cases hf
          exact hG.2 12 _ [0, 1, 2, 3, 4, 5] _ _ _ rfl hk
        · rw [if_neg hc13] at hf
          refine And.intro (fun (hc12 : r8 ≤ s.2.1) => ?_) (fun (hc12 : ¬ (r8 ≤ s.2.1)) => ?_)
          · rw [if_pos hc12] at hf
            refine hG.1 2 59 kb_47_59 _ _ _ rfl ?_
            cases hf
            exact hG.2 12 _ [0, 1, 2, 3, 4, 5] _ _ _ rfl hk
          · rw [if_neg hc12] at hf
            refine hG.1 2 59 kb_47_59 _ _ _ rfl ?_
            cases hf
            exact hG.2 12 _ [0, 1, 2, 3, 4, 5] _ _ _ rfl hk
  unfold f_47 at hf
  refine hG.1 0 0 kb_47_0 _ _ _ rfl ?_
  obtain ⟨hg1, hf⟩ := pb_gd hf
  obtain ⟨r2, cr2, hf⟩ := Option.bind_eq_some_iff.mp hf
  refine And.intro hg1 (And.intro (Nat.le_of_ble_eq_true rfl) (And.intro (Nat.le_of_ble_eq_true rfl) (Exists.intro (some (.int r2)) (Exists.intro _ (And.intro (l_48 cr2) (?_))))))
  obtain ⟨e16, he_e16, hf⟩ := Option.bind_eq_some_iff.mp hf
  refine hl_12 _ _ _ _ _ _ he_e16 ?_
  refine hG.1 3 69 kb_47_69 _ _ _ rfl ?_
  cases hf
  exact And.intro (fun z_ => absurd z_ (by decide)) (And.intro rfl rfl)
/-- PointedBench.text -/
def f_126 (N : Nat) (h : pb_HP) (v0 : Nat) (v1 : Int32) (v2 : Int32) : Option (Int32 × pb_HP) :=
  if pb_is h v0 10 then ((pb_R h v0 0).bind fun q2 => (if pb_is h q2 7 then ((f_102 (pb_pI (pb_pI (pb_pI h q2 5 0) q2 6 0) q2 7 ((-1))) q2 v1 v2).bind fun r4 => (if ¬ r4 = ((-1)) then ((pb_R h v0 3).bind fun q5 => ((pb_R h q2 4).bind fun q6 => (if pb_is h q5 6 then ((f_85 N (pb_pI (pb_pI (pb_pI h q2 5 0) q2 6 0) q2 7 ((-1))) q5 v1 q6 (pb_I h q2 5)).bind fun h9 => (if pb_is h9 v0 10 then ((pb_R h9 v0 0).bind fun q11 => ((pb_R h9 v0 3).bind fun q12 => (if pb_is h9 q12 6 then (if pb_is h9 q11 7 then (if (pb_I (pb_pI (pb_pI h9 q11 6 (pb_I h9 q12 3)) q11 7 (pb_I (pb_pI h9 q11 6 (pb_I h9 q12 3)) q12 4)) q12 3) = 0 then ((f_104 (pb_pI (pb_pI h9 q11 6 (pb_I h9 q12 3)) q11 7 (pb_I (pb_pI h9 q11 6 (pb_I h9 q12 3)) q12 4)) q11 v1 r4 q12).bind fun h16 => (some ((r4, h16)))) else (some (((-1), pb_pI (pb_pI h9 q11 6 (pb_I h9 q12 3)) q11 7 (pb_I (pb_pI h9 q11 6 (pb_I h9 q12 3)) q12 4))))) else none) else none))) else none)) else none))) else (some (((-2), pb_pI (pb_pI (pb_pI h q2 5 0) q2 6 0) q2 7 ((-1))))))) else none)) else none
set_option maxRecDepth 4000 in
theorem l_126 {xs : List Int32} {d : Nat} {N : Nat} {h : pb_HP} {v0 : Nat} {v1 : Int32} {v2 : Int32} {r : Int32} {hE : pb_HP} (hf : f_126 N h v0 v1 v2 = some ((r, hE))) : pb_AR xs (d + 6) 126 h [.ref v0, .int v1, .int v2] (some (.int r)) hE := by
  intro G hG
  have hc_ : pb_CODE 126 = kc_126 := rfl
  rw [hc_] at hG
  unfold f_126 at hf
  refine hG.1 0 0 kb_126_0 _ _ _ rfl ?_
  obtain ⟨hg1, hf⟩ := pb_gd hf
  obtain ⟨q2, eq2, hf⟩ := Option.bind_eq_some_iff.mp hf
  obtain ⟨hg3, hf⟩ := pb_gd hf
  refine And.intro hg1 (Exists.intro q2 (And.intro eq2 (And.intro hg3 (And.intro hg1 (Exists.intro q2 (And.intro eq2 (And.intro hg3 (And.intro hg1 (Exists.intro q2 (And.intro eq2 (And.intro hg3 (And.intro hg1 (Exists.intro q2 (And.intro eq2 (And.intro hg3 (And.intro hg1 (Exists.intro q2 (And.intro eq2 (?_)))))))))))))))))))
  obtain ⟨r4, cr4, hf⟩ := Option.bind_eq_some_iff.mp hf
  refine And.intro hg3 (And.intro (Nat.le_of_ble_eq_true rfl) (And.intro (Nat.le_of_ble_eq_true rfl) (Exists.intro (some (.int r4)) (Exists.intro _ (And.intro (l_102 cr4) (?_))))))
  refine And.intro (fun (hc18 : ¬ r4 = ((-1))) => ?_) (fun (hc18 : ¬ (¬ r4 = ((-1)))) => ?_)
  · rw [if_pos hc18] at hf
    refine hG.1 1 52 kb_126_52 _ _ _ rfl ?_
    obtain ⟨q5, eq5, hf⟩ := Option.bind_eq_some_iff.mp hf
    obtain ⟨q6, eq6, hf⟩ := Option.bind_eq_some_iff.mp hf
    obtain ⟨hg7, hf⟩ := pb_gd hf
    refine And.intro hg1 (Exists.intro q5 (And.intro eq5 (And.intro hg1 (Exists.intro q2 (And.intro eq2 (And.intro hg3 (Exists.intro q6 (And.intro eq6 (?_)))))))))
    obtain ⟨h9, cr8, hf⟩ := Option.bind_eq_some_iff.mp hf
    refine And.intro hg7 (And.intro (Nat.le_of_ble_eq_true rfl) (And.intro (Nat.le_of_ble_eq_true rfl) (Exists.intro none (Exists.intro _ (And.intro (l_85 cr8) (?_))))))
    obtain ⟨hg10, hf⟩ := pb_gd hf
    obtain ⟨q11, eq11, hf⟩ := Option.bind_eq_some_iff.mp hf
    obtain ⟨q12, eq12, hf⟩ := Option.bind_eq_some_iff.mp hf
    obtain ⟨hg13, hf⟩ := pb_gd hf
    obtain ⟨hg14, hf⟩ := pb_gd hf
    refine And.intro hg10 (Exists.intro q11 (And.intro eq11 (And.intro hg10 (Exists.intro q12 (And.intro eq12 (And.intro hg13 (And.intro hg14 (And.intro hg10 (Exists.intro q11 (And.intro eq11 (And.intro hg10 (Exists.intro q12 (And.intro eq12 (And.intro hg13 (And.intro hg14 (And.intro hg10 (Exists.intro q12 (And.intro eq12 (And.intro hg13 (?_))))))))))))))))))))
    refine And.intro (fun (hc17 : (pb_I (pb_pI (pb_pI h9 q11 6 (pb_I h9 q12 3)) q11 7 (pb_I (pb_pI h9 q11 6 (pb_I h9 q12 3)) q12 4)) q12 3) = 0) => ?_) (fun (hc17 : ¬ ((pb_I (pb_pI (pb_pI h9 q11 6 (pb_I h9 q12 3)) q11 7 (pb_I (pb_pI h9 q11 6 (pb_I h9 q12 3)) q12 4)) q12 3) = 0)) => ?_)
    · rw [if_pos hc17] at hf
      refine hG.1 2 108 kb_126_108 _ _ _ rfl ?_
      refine And.intro hg10 (Exists.intro q11 (And.intro eq11 (And.intro hg10 (Exists.intro q12 (And.intro eq12 (?_))))))
      obtain ⟨h16, cr15, hf⟩ := Option.bind_eq_some_iff.mp hf
      refine And.intro hg14 (And.intro (Nat.le_of_ble_eq_true rfl) (And.intro (Nat.le_of_ble_eq_true rfl) (Exists.intro none (Exists.intro _ (And.intro (l_104 cr15) (?_))))))
      cases hf
      exact And.intro (fun z_ => absurd z_ (by decide)) (And.intro rfl rfl)
    · rw [if_neg hc17] at hf
      cases hf
      exact And.intro (fun z_ => absurd z_ (by decide)) (And.intro rfl rfl)
  · rw [if_neg hc18] at hf
    cases hf
    exact And.intro (fun z_ => absurd z_ (by decide)) (And.intro rfl rfl)
/-- PointedBench.show -/
def f_133 (N : Nat) (h : pb_HP) (v0 : Nat) (v1 : Int32) (v2 : Int32) (v3 : Int32) : Option (Int32 × pb_HP) :=
  if pb_is h v0 10 then ((pb_R h v0 0).bind fun q2 => (if pb_is h q2 7 then ((f_105 h q2 v1).bind fun r4 => (match r4 with | none => (some (((-1), h))) | some q5 => (if pb_is h q5 0 then ((f_3 h q5 v2).bind fun r7 => (if ¬ r7 = 0 then ((pb_R h v0 5).bind fun q8 => (if pb_is h q8 8 then ((f_112 N h q8 q5 v2).bind fun (r10, h11) => ((f_164 r10 v3).bind fun r12 => (some ((r12, h11))))) else none)) else (some (((-1), h))))) else none))) else none)) else none
set_option maxRecDepth 4000 in
theorem l_133 {xs : List Int32} {d : Nat} {N : Nat} {h : pb_HP} {v0 : Nat} {v1 : Int32} {v2 : Int32} {v3 : Int32} {r : Int32} {hE : pb_HP} (hf : f_133 N h v0 v1 v2 v3 = some ((r, hE))) : pb_AR xs (d + 6) 133 h [.ref v0, .int v1, .int v2, .int v3] (some (.int r)) hE := by
  intro G hG
  have hc_ : pb_CODE 133 = kc_133 := rfl
  rw [hc_] at hG
  unfold f_133 at hf
  refine hG.1 0 0 kb_133_0 _ _ _ rfl ?_
  obtain ⟨hg1, hf⟩ := pb_gd hf
  obtain ⟨q2, eq2, hf⟩ := Option.bind_eq_some_iff.mp hf
  obtain ⟨hg3, hf⟩ := pb_gd hf
  refine And.intro hg1 (Exists.intro q2 (And.intro eq2 (?_)))
  obtain ⟨r4, cr4, hf⟩ := Option.bind_eq_some_iff.mp hf
  refine And.intro hg3 (And.intro (Nat.le_of_ble_eq_true rfl) (And.intro (Nat.le_of_ble_eq_true rfl) (Exists.intro (some (pb_rv r4)) (Exists.intro _ (And.intro (l_105 cr4) (?_))))))
  cases r4 with
  | none =>
    try dsimp only at hf
    refine hG.1 1 24 kb_133_24 _ _ _ rfl ?_
    cases hf
    exact And.intro (fun z_ => absurd z_ (by decide)) (And.intro rfl rfl)
  | some q5 =>
    try dsimp only at hf
    obtain ⟨hg6, hf⟩ := pb_gd hf
    obtain ⟨r7, cr7, hf⟩ := Option.bind_eq_some_iff.mp hf
    refine And.intro hg6 (And.intro (Nat.le_of_ble_eq_true rfl) (And.intro (Nat.le_of_ble_eq_true rfl) (Exists.intro (some (.int r7)) (Exists.intro _ (And.intro (l_3 cr7) (?_))))))
    refine And.intro (fun (hc13 : ¬ r7 = 0) => ?_) (fun (hc13 : ¬ (¬ r7 = 0)) => ?_)
    · rw [if_pos hc13] at hf
      refine hG.1 2 26 kb_133_26 _ _ _ rfl ?_
      obtain ⟨q8, eq8, hf⟩ := Option.bind_eq_some_iff.mp hf
      obtain ⟨hg9, hf⟩ := pb_gd hf
      refine And.intro hg1 (Exists.intro q8 (And.intro eq8 (?_)))
      obtain ⟨⟨r10, h11⟩, cr10, hf⟩ := Option.bind_eq_some_iff.mp hf
      try dsimp only at hf
      refine And.intro hg9 (And.intro (Nat.le_of_ble_eq_true rfl) (And.intro (Nat.le_of_ble_eq_true rfl) (Exists.intro (some (.int r10)) (Exists.intro _ (And.intro (l_112 cr10) (?_))))))
      obtain ⟨r12, cr12, hf⟩ := Option.bind_eq_some_iff.mp hf
      refine And.intro (Nat.le_of_ble_eq_true rfl) (And.intro (Nat.le_of_ble_eq_true rfl) (And.intro (Nat.le_of_ble_eq_true rfl) (Exists.intro (some (.int r12)) (Exists.intro _ (And.intro (l_164 cr12) (?_))))))
      cases hf
      exact And.intro (fun z_ => absurd z_ (by decide)) (And.intro rfl rfl)
    · rw [if_neg hc13] at hf
      refine hG.1 1 24 kb_133_24 _ _ _ rfl ?_
      cases hf
      exact And.intro (fun z_ => absurd z_ (by decide)) (And.intro rfl rfl)
/-- PointedBench.fits -/
def f_140 (N : Nat) (h : pb_HP) (v0 : Nat) (v1 : Int32) (v2 : Int32) : Option (Int32 × pb_HP) :=
  if pb_is h v0 10 then ((pb_R h v0 0).bind fun q2 => (if pb_is h q2 7 then ((f_107 h q2 v1).bind fun r4 => (match r4 with | none => (some (((-2), h))) | some q5 => ((pb_R h v0 9).bind fun q6 => (if pb_is h q6 3 then ((f_60 N h q6 q5).bind fun h9 => (if pb_is h9 v0 10 then ((pb_R h9 v0 9).bind fun q11 => (if pb_is h9 q11 3 then ((f_63 N h9 q11 v2).bind fun (r13, h14) => (some ((r13, h14)))) else none)) else none)) else none)))) else none)) else none
set_option maxRecDepth 4000 in
theorem l_140 {xs : List Int32} {d : Nat} {N : Nat} {h : pb_HP} {v0 : Nat} {v1 : Int32} {v2 : Int32} {r : Int32} {hE : pb_HP} (hf : f_140 N h v0 v1 v2 = some ((r, hE))) : pb_AR xs (d + 6) 140 h [.ref v0, .int v1, .int v2] (some (.int r)) hE := by
  intro G hG
  have hc_ : pb_CODE 140 = kc_140 := rfl
  rw [hc_] at hG
  unfold f_140 at hf
  refine hG.1 0 0 kb_140_0 _ _ _ rfl ?_
  obtain ⟨hg1, hf⟩ := pb_gd hf
  obtain ⟨q2, eq2, hf⟩ := Option.bind_eq_some_iff.mp hf
  obtain ⟨hg3, hf⟩ := pb_gd hf
  refine And.intro hg1 (Exists.intro q2 (And.intro eq2 (?_)))
  obtain ⟨r4, cr4, hf⟩ := Option.bind_eq_some_iff.mp hf
  refine And.intro hg3 (And.intro (Nat.le_of_ble_eq_true rfl) (And.intro (Nat.le_of_ble_eq_true rfl) (Exists.intro (some (pb_rv r4)) (Exists.intro _ (And.intro (l_107 cr4) (?_))))))
  cases r4 with
  | none =>
    try dsimp only at hf
    cases hf
    exact And.intro (fun z_ => absurd z_ (by decide)) (And.intro rfl rfl)
  | some q5 =>
    try dsimp only at hf
    refine hG.1 1 16 kb_140_16 _ _ _ rfl ?_
    obtain ⟨q6, eq6, hf⟩ := Option.bind_eq_some_iff.mp hf
    obtain ⟨hg7, hf⟩ := pb_gd hf
    refine And.intro hg1 (Exists.intro q6 (And.intro eq6 (?_)))
    obtain ⟨h9, cr8, hf⟩ := Option.bind_eq_some_iff.mp hf
    refine And.intro hg7 (And.intro (Nat.le_of_ble_eq_true rfl) (And.intro (Nat.le_of_ble_eq_true rfl) (Exists.intro none (Exists.intro _ (And.intro (l_60 cr8) (?_))))))
    obtain ⟨hg10, hf⟩ := pb_gd hf
    obtain ⟨q11, eq11, hf⟩ := Option.bind_eq_some_iff.mp hf
    obtain ⟨hg12, hf⟩ := pb_gd hf
    refine And.intro hg10 (Exists.intro q11 (And.intro eq11 (?_)))
    obtain ⟨⟨r13, h14⟩, cr13, hf⟩ := Option.bind_eq_some_iff.mp hf
    try dsimp only at hf
    refine And.intro hg12 (And.intro (Nat.le_of_ble_eq_true rfl) (And.intro (Nat.le_of_ble_eq_true rfl) (Exists.intro (some (.int r13)) (Exists.intro _ (And.intro (l_63 cr13) (?_))))))
    cases hf
    exact And.intro (fun z_ => absurd z_ (by decide)) (And.intro rfl rfl)
/-- PointedBench.trade -/
def f_145 (N : Nat) (h : pb_HP) (v0 : Nat) (v1 : Int32) (v2 : Int32) (v3 : Int32) : Option (Int32 × pb_HP) :=
  if pb_is h v0 10 then ((pb_R h v0 0).bind fun q2 => (if pb_is h q2 7 then ((f_105 h q2 v1).bind fun r4 => (match r4 with | none => (some (((-1), h))) | some q5 => (if pb_is h q5 0 then ((f_3 h q5 v2).bind fun r7 => (if r7 = 0 then (some (((-1), h))) else ((f_3 h q5 v3).bind fun r8 => (if r8 = 0 then (some (((-1), h))) else (if ¬ v2 = v3 then ((pb_R h v0 5).bind fun q9 => (if pb_is h q9 8 then ((f_114 N h q9 q5 v2 v3).bind fun (r11, h12) => (some ((r11, h12)))) else none)) else (some (((-1), h)))))))) else none))) else none)) else none
set_option maxRecDepth 4000 in
theorem l_145 {xs : List Int32} {d : Nat} {N : Nat} {h : pb_HP} {v0 : Nat} {v1 : Int32} {v2 : Int32} {v3 : Int32} {r : Int32} {hE : pb_HP} (hf : f_145 N h v0 v1 v2 v3 = some ((r, hE))) : pb_AR xs (d + 6) 145 h [.ref v0, .int v1, .int v2, .int v3] (some (.int r)) hE := by
  intro G hG
  have hc_ : pb_CODE 145 = kc_145 := rfl
  rw [hc_] at hG
  unfold f_145 at hf
  refine hG.1 0 0 kb_145_0 _ _ _ rfl ?_
  obtain ⟨hg1, hf⟩ := pb_gd hf
  obtain ⟨q2, eq2, hf⟩ := Option.bind_eq_some_iff.mp hf
  obtain ⟨hg3, hf⟩ := pb_gd hf
  refine And.intro hg1 (Exists.intro q2 (And.intro eq2 (?_)))
  obtain ⟨r4, cr4, hf⟩ := Option.bind_eq_some_iff.mp hf
  refine And.intro hg3 (And.intro (Nat.le_of_ble_eq_true rfl) (And.intro (Nat.le_of_ble_eq_true rfl) (Exists.intro (some (pb_rv r4)) (Exists.intro _ (And.intro (l_105 cr4) (?_))))))
  cases r4 with
  | none =>
    try dsimp only at hf
    refine hG.1 1 38 kb_145_38 _ _ _ rfl ?_
    cases hf
    exact And.intro (fun z_ => absurd z_ (by decide)) (And.intro rfl rfl)
  | some q5 =>
    try dsimp only at hf
    obtain ⟨hg6, hf⟩ := pb_gd hf
    obtain ⟨r7, cr7, hf⟩ := Option.bind_eq_some_iff.mp hf
    refine And.intro hg6 (And.intro (Nat.le_of_ble_eq_true rfl) (And.intro (Nat.le_of_ble_eq_true rfl) (Exists.intro (some (.int r7)) (Exists.intro _ (And.intro (l_3 cr7) (?_))))))
    refine And.intro (fun (hc15 : r7 = 0) => ?_) (fun (hc15 : ¬ (r7 = 0)) => ?_)
    · rw [if_pos hc15] at hf
      refine hG.1 1 38 kb_145_38 _ _ _ rfl ?_
      cases hf
      exact And.intro (fun z_ => absurd z_ (by decide)) (And.intro rfl rfl)
    · rw [if_neg hc15] at hf
      obtain ⟨r8, cr8, hf⟩ := Option.bind_eq_some_iff.mp hf
      refine And.intro hg6 (And.intro (Nat.le_of_ble_eq_true rfl) (And.intro (Nat.le_of_ble_eq_true rfl) (Exists.intro (some (.int r8)) (Exists.intro _ (And.intro (l_3 cr8) (?_))))))
      refine And.intro (fun (hc14 : r8 = 0) => ?_) (fun (hc14 : ¬ (r8 = 0)) => ?_)
      · rw [if_pos hc14] at hf
        refine hG.1 1 38 kb_145_38 _ _ _ rfl ?_
        cases hf
        exact And.intro (fun z_ => absurd z_ (by decide)) (And.intro rfl rfl)
      · rw [if_neg hc14] at hf
        refine And.intro (fun (hc13 : ¬ v2 = v3) => ?_) (fun (hc13 : ¬ (¬ v2 = v3)) => ?_)
        · rw [if_pos hc13] at hf
          refine hG.1 2 40 kb_145_40 _ _ _ rfl ?_
          obtain ⟨q9, eq9, hf⟩ := Option.bind_eq_some_iff.mp hf
          obtain ⟨hg10, hf⟩ := pb_gd hf
          refine And.intro hg1 (Exists.intro q9 (And.intro eq9 (?_)))
          obtain ⟨⟨r11, h12⟩, cr11, hf⟩ := Option.bind_eq_some_iff.mp hf
          try dsimp only at hf
          refine And.intro hg10 (And.intro (Nat.le_of_ble_eq_true rfl) (And.intro (Nat.le_of_ble_eq_true rfl) (Exists.intro (some (.int r11)) (Exists.intro _ (And.intro (l_114 cr11) (?_))))))
          cases hf
          exact And.intro (fun z_ => absurd z_ (by decide)) (And.intro rfl rfl)
        · rw [if_neg hc13] at hf
          refine hG.1 1 38 kb_145_38 _ _ _ rfl ?_
          cases hf
          exact And.intro (fun z_ => absurd z_ (by decide)) (And.intro rfl rfl)
def f_192_95 (N : Nat) (h : pb_HP) (v0 : Nat) (v1 : Int32) (v2 : Int32) : Option ((Int32 × pb_HP) ⊕ (Int32 × pb_HP)) :=
  if v2 = 0 then (some (.inl ((v2, h)))) else (if pb_is h v0 11 then ((f_180 N h v0).bind fun h7 => (some (.inl ((v2, h7))))) else none)
def f_192_77 (N : Nat) (h : pb_HP) (v0 : Nat) (v1 : Int32) (s0 : Int32) : Option ((Int32 × pb_HP) ⊕ (Int32 × pb_HP)) :=
  if s0 = 0 then (f_192_95 N h v0 v1 s0) else (if pb_is h v0 11 then (if (pb_I h v0 12) = 4 then (f_192_95 N h v0 v1 s0) else ((f_181 h v0).bind fun (r10, h11) => (f_192_95 N h11 v0 v1 r10))) else none)
def f_192_34 (N : Nat) (h : pb_HP) (v0 : Nat) (v1 : Int32) (v3 : Int32) (s0 : Int64) : Option ((Int32 × pb_HP) ⊕ (Int32 × pb_HP)) :=
  if pb_is h v0 11 then (if ¬ v1 = 0 then (if ¬ v1 = 1 then ((f_191 N (pb_pI h v0 22 1) v0 s0 v3).bind fun (r3, h4) => (f_192_77 N h4 v0 v1 r3)) else ((f_190 N (pb_pI h v0 22 1) v0 s0 v3).bind fun (r14, h15) => (f_192_77 N h15 v0 v1 r14))) else ((f_187 N (pb_pI h v0 22 1) v0 s0 v3).bind fun (r17, h18) => (f_192_77 N h18 v0 v1 r17))) else none
def f_192_2s (N : Nat) (v0 : Nat) (v1 : Int32) (s : Int32 × pb_HP) : Option ((Int32 × pb_HP) ⊕ (Int32 × pb_HP)) :=
  if s.1 = 0 then (some (.inr ((s.1, s.2)))) else (if pb_is s.2 v0 11 then (if (pb_I s.2 v0 12) = 0 then (some (.inr ((s.1, s.2)))) else (if ¬ (pb_I s.2 v0 12) = 2 then (f_192_34 N s.2 v0 v1 (pb_I s.2 v0 11) 0) else (f_192_34 N s.2 v0 v1 (pb_I s.2 v0 11) (pb_J s.2 v0 14)))) else none)
/-- PointedBenchModel.allLines -/
def f_192 (N : Nat) (h : pb_HP) (v0 : Nat) (v1 : Int32) : Option (Int32 × pb_HP) :=
  (pb_wl (f_192_2s N v0 v1) N ((1, h))).bind fun e23 => (if e23.1 = 0 ∨ e23.1 = 1 then (some ((e23.1, e23.2))) else none)
set_option maxRecDepth 4000 in
theorem l_192 {xs : List Int32} {d : Nat} {N : Nat} {h : pb_HP} {v0 : Nat} {v1 : Int32} {r : Int32} {hE : pb_HP} (hf : f_192 N h v0 v1 = some ((r, hE))) : pb_AR xs (d + 6) 192 h [.ref v0, .int v1] (some (.int r)) hE := by
  intro G hG
  have hc_ : pb_CODE 192 = kc_192 := rfl
  rw [hc_] at hG
  have hj_95 : ∀ (h : pb_HP) (v0 : Nat) (v1 : Int32) (v2 : Int32) x, f_192_95 N h v0 v1 v2 = some x → pb_kk (fun (s_ : Int32 × pb_HP) => G 2 [(0, .ref v0), (1, .int v1), (2, .int s_.1)] [] s_.2) (fun (e_ : Int32 × pb_HP) => G 106 [(2, .int e_.1)] [] e_.2) x → G 95 [(0, .ref v0), (1, .int v1), (2, .int v2)] [] h := by
    intro h v0 v1 v2 x hf hk
    unfold f_192_95 at hf
    refine hG.1 7 95 kb_192_95 _ _ _ rfl ?_
    refine And.intro (fun (hc8 : v2 = 0) => ?_) (fun (hc8 : ¬ (v2 = 0)) => ?_)
    · rw [if_pos hc8] at hf
      refine hG.1 8 103 kb_192_103 _ _ _ rfl ?_
      cases hf
      exact hk
    · rw [if_neg hc8] at hf
      obtain ⟨hg5, hf⟩ := pb_gd hf
      obtain ⟨h7, cr6, hf⟩ := Option.bind_eq_some_iff.mp hf
      refine And.intro hg5 (And.intro (Nat.le_of_ble_eq_true rfl) (And.intro (Nat.le_of_ble_eq_true rfl) (Exists.intro none (Exists.intro _ (And.intro (l_180 cr6) (?_))))))
      refine hG.1 8 103 kb_192_103 _ _ _ rfl ?_
      cases hf
      exact hk
  have hj_77 : ∀ (h : pb_HP) (v0 : Nat) (v1 : Int32) (s0 : Int32) x, f_192_77 N h v0 v1 s0 = some x → pb_kk (fun (s_ : Int32 × pb_HP) => G 2 [(0, .ref v0), (1, .int v1), (2, .int s_.1)] [] s_.2) (fun (e_ : Int32 × pb_HP) => G 106 [(2, .int e_.1)] [] e_.2) x → G 77 [(0, .ref v0), (1, .int v1)] [.int s0] h := by
    intro h v0 v1 s0 x hf hk
    unfold f_192_77 at hf
    refine hG.1 6 77 kb_192_77 _ _ _ rfl ?_
    refine And.intro (fun (hc13 : s0 = 0) => ?_) (fun (hc13 : ¬ (s0 = 0)) => ?_)
    · rw [if_pos hc13] at hf
      exact hj_95 _ _ _ _ _ hf hk
    · rw [if_neg hc13] at hf
      obtain ⟨hg9, hf⟩ := pb_gd hf
      refine And.intro hg9 (?_)
      refine And.intro (fun (hc12 : (pb_I h v0 12) = 4) => ?_) (fun (hc12 : ¬ ((pb_I h v0 12) = 4)) => ?_)
      · rw [if_pos hc12] at hf
        exact hj_95 _ _ _ _ _ hf hk
      · rw [if_neg hc12] at hf
        obtain ⟨⟨r10, h11⟩, cr10, hf⟩ := Option.bind_eq_some_iff.mp hf
        try dsimp only at hf
        refine And.intro hg9 (And.intro (Nat.le_of_ble_eq_true rfl) (And.intro (Nat.le_of_ble_eq_true rfl) (Exists.intro (some (.int r10)) (Exists.intro _ (And.intro (l_181 cr10) (?_))))))
        exact hj_95 _ _ _ _ _ hf hk
  have hj_34 : ∀ (h : pb_HP) (v0 : Nat) (v1 : Int32) (v3 : Int32) (s0 : Int64) x, f_192_34 N h v0 v1 v3 s0 = some x → pb_kk (fun (s_ : Int32 × pb_HP) => G 2 [(0, .ref v0), (1, .int v1), (2, .int s_.1)] [] s_.2) (fun (e_ : Int32 × pb_HP) => G 106 [(2, .int e_.1)] [] e_.2) x → G 34 [(0, .ref v0), (1, .int v1), (3, .int v3)] [.long s0] h := by
    intro h v0 v1 v3 s0 x hf hk
    unfold f_192_34 at hf
    refine hG.1 3 34 kb_192_34 _ _ _ rfl ?_
    obtain ⟨hg2, hf⟩ := pb_gd hf
    refine And.intro hg2 (And.intro (Or.inr rfl) (?_))
    refine And.intro (fun (hc19 : ¬ v1 = 0) => ?_) (fun (hc19 : ¬ (¬ v1 = 0)) => ?_)
    · rw [if_pos hc19] at hf
      refine hG.1 4 55 kb_192_55 _ _ _ rfl ?_
      refine And.intro (fun (hc16 : ¬ v1 = 1) => ?_) (fun (hc16 : ¬ (¬ v1 = 1)) => ?_)
      · rw [if_pos hc16] at hf
        refine hG.1 5 70 kb_192_70 _ _ _ rfl ?_
        obtain ⟨⟨r3, h4⟩, cr3, hf⟩ := Option.bind_eq_some_iff.mp hf
        try dsimp only at hf
        refine And.intro hg2 (And.intro (Nat.le_of_ble_eq_true rfl) (And.intro (Nat.le_of_ble_eq_true rfl) (Exists.intro (some (.int r3)) (Exists.intro _ (And.intro (l_191 cr3) (?_))))))
        refine hG.2 77 _ [0, 1] _ _ _ rfl ?_
        exact hj_77 _ _ _ _ _ hf hk
      · rw [if_neg hc16] at hf
        obtain ⟨⟨r14, h15⟩, cr14, hf⟩ := Option.bind_eq_some_iff.mp hf
        try dsimp only at hf
        refine And.intro hg2 (And.intro (Nat.le_of_ble_eq_true rfl) (And.intro (Nat.le_of_ble_eq_true rfl) (Exists.intro (some (.int r14)) (Exists.intro _ (And.intro (l_190 cr14) (?_))))))
        refine hG.2 77 _ [0, 1] _ _ _ rfl ?_
        exact hj_77 _ _ _ _ _ hf hk
    · rw [if_neg hc19] at hf
      obtain ⟨⟨r17, h18⟩, cr17, hf⟩ := Option.bind_eq_some_iff.mp hf
      try dsimp only at hf
      refine And.intro hg2 (And.intro (Nat.le_of_ble_eq_true rfl) (And.intro (Nat.le_of_ble_eq_true rfl) (Exists.intro (some (.int r17)) (Exists.intro _ (And.intro (l_187 cr17) (?_))))))
      refine hG.2 77 _ [0, 1] _ _ _ rfl ?_
      exact hj_77 _ _ _ _ _ hf hk
  have hl_2 : ∀ (v0 : Nat) (v1 : Int32) (n_ : Nat) (s : Int32 × pb_HP) (e : Int32 × pb_HP), pb_wl (f_192_2s N v0 v1) n_ s = some e → G 106 [(2, .int e.1)] [] e.2 → G 2 [(0, .ref v0), (1, .int v1), (2, .int s.1)] [] s.2 := by
    intro v0 v1
    refine pb_wl_ind (I := fun (s : Int32 × pb_HP) => G 2 [(0, .ref v0), (1, .int v1), (2, .int s.1)] [] s.2) (K := fun (e : Int32 × pb_HP) => G 106 [(2, .int e.1)] [] e.2) (fun s x hf hk => ?_)
    unfold f_192_2s at hf
    refine hG.1 1 2 kb_192_2 _ _ _ rfl ?_
    refine And.intro (fun (hc22 : s.1 = 0) => ?_) (fun (hc22 : ¬ (s.1 = 0)) => ?_)
    · rw [if_pos hc22] at hf
      cases hf
      exact hG.2 106 _ [2] _ _ _ rfl hk
    · rw [if_neg hc22] at hf
      obtain ⟨hg1, hf⟩ := pb_gd hf
      refine And.intro hg1 (?_)
      refine And.intro (fun (hc21 : (pb_I s.2 v0 12) = 0) => ?_) (fun (hc21 : ¬ ((pb_I s.2 v0 12) = 0)) => ?_)
      · rw [if_pos hc21] at hf
        cases hf
        exact hG.2 106 _ [2] _ _ _ rfl hk
      · rw [if_neg hc21] at hf
        refine And.intro hg1 (And.intro hg1 (?_))
        refine And.intro (fun (hc20 : ¬ (pb_I s.2 v0 12) = 2) => ?_) (fun (hc20 : ¬ (¬ (pb_I s.2 v0 12) = 2)) => ?_)
        · rw [if_pos hc20] at hf
          refine hG.1 2 33 kb_192_33 _ _ _ rfl ?_
          refine hG.2 34 _ [0, 1, 3] _ _ _ rfl ?_
          exact hj_34 _ _ _ _ _ _ hf hk
        · rw [if_neg hc20] at hf
          refine And.intro hg1 (?_)
          refine hG.2 34 _ [0, 1, 3] _ _ _ rfl ?_
          exact hj_34 _ _ _ _ _ _ hf hk
  unfold f_192 at hf
  refine hG.1 0 0 kb_192_0 _ _ _ rfl ?_
  obtain ⟨e23, he_e23, hf⟩ := Option.bind_eq_some_iff.mp hf
  refine hl_2 _ _ _ _ _ he_e23 ?_
  refine hG.1 9 106 kb_192_106 _ _ _ rfl ?_
  obtain ⟨hg24, hf⟩ := pb_gd hf
  cases hf
  exact And.intro (fun _ => hg24) (And.intro rfl rfl)
/-- PointedBenchModel.pickNow -/
def f_210 (N : Nat) (h : pb_HP) (v0 : Nat) : Option (Int32 × pb_HP) :=
  if pb_is h v0 11 then ((f_208 N h v0).bind fun h3 => (if pb_is h3 v0 11 then ((f_209 N h3 v0 63).bind fun r5 => (some ((r5, h3)))) else none)) else none
set_option maxRecDepth 4000 in
theorem l_210 {xs : List Int32} {d : Nat} {N : Nat} {h : pb_HP} {v0 : Nat} {r : Int32} {hE : pb_HP} (hf : f_210 N h v0 = some ((r, hE))) : pb_AR xs (d + 6) 210 h [.ref v0] (some (.int r)) hE := by
  intro G hG
  have hc_ : pb_CODE 210 = kc_210 := rfl
  rw [hc_] at hG
  unfold f_210 at hf
  refine hG.1 0 0 kb_210_0 _ _ _ rfl ?_
  obtain ⟨hg1, hf⟩ := pb_gd hf
  obtain ⟨h3, cr2, hf⟩ := Option.bind_eq_some_iff.mp hf
  refine And.intro hg1 (And.intro (Nat.le_of_ble_eq_true rfl) (And.intro (Nat.le_of_ble_eq_true rfl) (Exists.intro none (Exists.intro _ (And.intro (l_208 cr2) (?_))))))
  obtain ⟨hg4, hf⟩ := pb_gd hf
  obtain ⟨r5, cr5, hf⟩ := Option.bind_eq_some_iff.mp hf
  refine And.intro hg4 (And.intro (Nat.le_of_ble_eq_true rfl) (And.intro (Nat.le_of_ble_eq_true rfl) (Exists.intro (some (.int r5)) (Exists.intro _ (And.intro (l_209 cr5) (?_))))))
  cases hf
  exact And.intro (fun z_ => absurd z_ (by decide)) (And.intro rfl rfl)
/-- PointedBenchModel.picked -/
def f_228 (N : Nat) (h : pb_HP) (v0 : Nat) (v1 : Int32) (v2 : Int32) : Option (Int32 × pb_HP) :=
  if pb_is h v0 11 then ((f_168 v2 0 63).bind fun r2 => (if r2 = 0 then (some (((-1), pb_pI h v0 0 0))) else ((f_198 N (pb_pI h v0 0 0) v0 v1).bind fun (r3, h4) => (if ¬ r3 = 0 then (if pb_is h4 v0 11 then ((f_208 N h4 v0).bind fun h7 => (if pb_is h7 v0 11 then ((f_209 N h7 v0 v2).bind fun r9 => (some ((r9, h7)))) else none)) else none) else (some (((-1), h4))))))) else none
set_option maxRecDepth 4000 in
theorem l_228 {xs : List Int32} {d : Nat} {N : Nat} {h : pb_HP} {v0 : Nat} {v1 : Int32} {v2 : Int32} {r : Int32} {hE : pb_HP} (hf : f_228 N h v0 v1 v2 = some ((r, hE))) : pb_AR xs (d + 6) 228 h [.ref v0, .int v1, .int v2] (some (.int r)) hE := by
  intro G hG
  have hc_ : pb_CODE 228 = kc_228 := rfl
  rw [hc_] at hG
  unfold f_228 at hf
  refine hG.1 0 0 kb_228_0 _ _ _ rfl ?_
  obtain ⟨hg1, hf⟩ := pb_gd hf
  refine And.intro hg1 (?_)
  obtain ⟨r2, cr2, hf⟩ := Option.bind_eq_some_iff.mp hf
  refine And.intro (Nat.le_of_ble_eq_true rfl) (And.intro (Nat.le_of_ble_eq_true rfl) (And.intro (Nat.le_of_ble_eq_true rfl) (Exists.intro (some (.int r2)) (Exists.intro _ (And.intro (l_168 cr2) (?_))))))
  refine And.intro (fun (hc11 : r2 = 0) => ?_) (fun (hc11 : ¬ (r2 = 0)) => ?_)
  · rw [if_pos hc11] at hf
    refine hG.1 1 23 kb_228_23 _ _ _ rfl ?_
    cases hf
    exact And.intro (fun z_ => absurd z_ (by decide)) (And.intro rfl rfl)
  · rw [if_neg hc11] at hf
    obtain ⟨⟨r3, h4⟩, cr3, hf⟩ := Option.bind_eq_some_iff.mp hf
    try dsimp only at hf
    refine And.intro hg1 (And.intro (Nat.le_of_ble_eq_true rfl) (And.intro (Nat.le_of_ble_eq_true rfl) (Exists.intro (some (.int r3)) (Exists.intro _ (And.intro (l_198 cr3) (?_))))))
    refine And.intro (fun (hc10 : ¬ r3 = 0) => ?_) (fun (hc10 : ¬ (¬ r3 = 0)) => ?_)
    · rw [if_pos hc10] at hf
      refine hG.1 2 25 kb_228_25 _ _ _ rfl ?_
      obtain ⟨hg5, hf⟩ := pb_gd hf
      obtain ⟨h7, cr6, hf⟩ := Option.bind_eq_some_iff.mp hf
      refine And.intro hg5 (And.intro (Nat.le_of_ble_eq_true rfl) (And.intro (Nat.le_of_ble_eq_true rfl) (Exists.intro none (Exists.intro _ (And.intro (l_208 cr6) (?_))))))
      obtain ⟨hg8, hf⟩ := pb_gd hf
      obtain ⟨r9, cr9, hf⟩ := Option.bind_eq_some_iff.mp hf
      refine And.intro hg8 (And.intro (Nat.le_of_ble_eq_true rfl) (And.intro (Nat.le_of_ble_eq_true rfl) (Exists.intro (some (.int r9)) (Exists.intro _ (And.intro (l_209 cr9) (?_))))))
      cases hf
      exact And.intro (fun z_ => absurd z_ (by decide)) (And.intro rfl rfl)
    · rw [if_neg hc10] at hf
      refine hG.1 1 23 kb_228_23 _ _ _ rfl ?_
      cases hf
      exact And.intro (fun z_ => absurd z_ (by decide)) (And.intro rfl rfl)
def f_230_66 (N : Nat) (h : pb_HP) (v0 : Nat) (v1 : Int32) (v2 : Int32) (v3 : Int32) (v4 : Int32) (v5 : Int32) (s0 : Int32) : Option ((Int32 × Int32) ⊕ (Int32)) :=
  if s0 = 0 then (some (.inl ((v4, v5 + 1)))) else (if ¬ (v5 &&& (v3 ^^^ ((-1)))) = 0 then (some (.inl ((v4, v5 + 1)))) else (if pb_is h v0 11 then ((f_209 N h v0 v5).bind fun r7 => (if ¬ r7 = v1 then (some (.inl ((v4, v5 + 1)))) else (some (.inl ((v5, v5 + 1)))))) else none))
def f_230_15s (N : Nat) (h : pb_HP) (v0 : Nat) (v1 : Int32) (v2 : Int32) (v3 : Int32) (s : Int32 × Int32) : Option ((Int32 × Int32) ⊕ (Int32)) :=
  if 64 ≤ s.2 then (some (.inr s.1)) else (if s.1 = ((-1)) then (f_230_66 N h v0 v1 v2 v3 s.1 s.2 1) else (if v2 = 0 then ((f_172 N s.2).bind fun r11 => ((f_172 N s.1).bind fun r12 => (if r12 ≤ r11 then (f_230_66 N h v0 v1 v2 v3 s.1 s.2 0) else (f_230_66 N h v0 v1 v2 v3 s.1 s.2 1)))) else ((f_172 N s.2).bind fun r14 => ((f_172 N s.1).bind fun r15 => (if r14 ≤ r15 then (f_230_66 N h v0 v1 v2 v3 s.1 s.2 0) else (f_230_66 N h v0 v1 v2 v3 s.1 s.2 1))))))
/-- PointedBenchModel.benchOf -/
def f_230 (N : Nat) (h : pb_HP) (v0 : Nat) (v1 : Int32) (v2 : Int32) : Option (Int32 × pb_HP) :=
  if pb_is h v0 11 then ((f_208 N h v0).bind fun h3 => (if pb_is h3 v0 11 then ((f_203 N h3 v0).bind fun r5 => ((pb_wl (f_230_15s N h3 v0 v1 v2 r5) N (((-1), 1))).bind fun e20 => (some ((e20, h3))))) else none)) else none
set_option maxRecDepth 4000 in
theorem l_230 {xs : List Int32} {d : Nat} {N : Nat} {h : pb_HP} {v0 : Nat} {v1 : Int32} {v2 : Int32} {r : Int32} {hE : pb_HP} (hf : f_230 N h v0 v1 v2 = some ((r, hE))) : pb_AR xs (d + 6) 230 h [.ref v0, .int v1, .int v2] (some (.int r)) hE := by
  intro G hG
  have hc_ : pb_CODE 230 = kc_230 := rfl
  rw [hc_] at hG
  have hj_66 : ∀ (h : pb_HP) (v0 : Nat) (v1 : Int32) (v2 : Int32) (v3 : Int32) (v4 : Int32) (v5 : Int32) (s0 : Int32) x, f_230_66 N h v0 v1 v2 v3 v4 v5 s0 = some x → pb_kk (fun (s_ : Int32 × Int32) => G 15 [(0, .ref v0), (1, .int v1), (2, .int v2), (3, .int v3), (4, .int s_.1), (5, .int s_.2)] [] h) (fun (e_ : Int32) => G 107 [(4, .int e_)] [] h) x → G 66 [(0, .ref v0), (1, .int v1), (2, .int v2), (3, .int v3), (4, .int v4), (5, .int v5)] [.int s0] h := by
    intro h v0 v1 v2 v3 v4 v5 s0 x hf hk
    unfold f_230_66 at hf
    refine hG.1 5 66 kb_230_66 _ _ _ rfl ?_
    refine And.intro (fun (hc10 : s0 = 0) => ?_) (fun (hc10 : ¬ (s0 = 0)) => ?_)
    · rw [if_pos hc10] at hf
      refine hG.1 6 97 kb_230_97 _ _ _ rfl ?_
      refine hG.1 7 99 kb_230_99 _ _ _ rfl ?_
      cases hf
      exact hG.2 15 _ [0, 1, 2, 3, 4, 5] _ _ _ rfl hk
    · rw [if_neg hc10] at hf
      refine And.intro (fun (hc9 : ¬ (v5 &&& (v3 ^^^ ((-1)))) = 0) => ?_) (fun (hc9 : ¬ (¬ (v5 &&& (v3 ^^^ ((-1)))) = 0)) => ?_)
      · rw [if_pos hc9] at hf
        refine hG.1 6 97 kb_230_97 _ _ _ rfl ?_
        refine hG.1 7 99 kb_230_99 _ _ _ rfl ?_
        cases hf
        exact hG.2 15 _ [0, 1, 2, 3, 4, 5] _ _ _ rfl hk
      · rw [if_neg hc9] at hf
        obtain ⟨hg6, hf⟩ := pb_gd hf
        obtain ⟨r7, cr7, hf⟩ := Option.bind_eq_some_iff.mp hf
        refine And.intro hg6 (And.intro (Nat.le_of_ble_eq_true rfl) (And.intro (Nat.le_of_ble_eq_true rfl) (Exists.intro (some (.int r7)) (Exists.intro _ (And.intro (l_209 cr7) (?_))))))
        refine And.intro (fun (hc8 : ¬ r7 = v1) => ?_) (fun (hc8 : ¬ (¬ r7 = v1)) => ?_)
        · rw [if_pos hc8] at hf
          refine hG.1 6 97 kb_230_97 _ _ _ rfl ?_
          refine hG.1 7 99 kb_230_99 _ _ _ rfl ?_
          cases hf
          exact hG.2 15 _ [0, 1, 2, 3, 4, 5] _ _ _ rfl hk
        · rw [if_neg hc8] at hf
          refine hG.1 7 99 kb_230_99 _ _ _ rfl ?_
          cases hf
          exact hG.2 15 _ [0, 1, 2, 3, 4, 5] _ _ _ rfl hk
  have hl_15 : ∀ (h : pb_HP) (v0 : Nat) (v1 : Int32) (v2 : Int32) (v3 : Int32) (n_ : Nat) (s : Int32 × Int32) (e : Int32), pb_wl (f_230_15s N h v0 v1 v2 v3) n_ s = some e → G 107 [(4, .int e)] [] h → G 15 [(0, .ref v0), (1, .int v1), (2, .int v2), (3, .int v3), (4, .int s.1), (5, .int s.2)] [] h := by
    intro h v0 v1 v2 v3
    refine pb_wl_ind (I := fun (s : Int32 × Int32) => G 15 [(0, .ref v0), (1, .int v1), (2, .int v2), (3, .int v3), (4, .int s.1), (5, .int s.2)] [] h) (K := fun (e : Int32) => G 107 [(4, .int e)] [] h) (fun s x hf hk => ?_)
    unfold f_230_15s at hf
    refine hG.1 1 15 kb_230_15 _ _ _ rfl ?_
    refine And.intro (fun (hc19 : 64 ≤ s.2) => ?_) (fun (hc19 : ¬ (64 ≤ s.2)) => ?_)
    · rw [if_pos hc19] at hf
      cases hf
      exact hG.2 107 _ [4] _ _ _ rfl hk
    · rw [if_neg hc19] at hf
      refine And.intro (fun (hc18 : s.1 = ((-1))) => ?_) (fun (hc18 : ¬ (s.1 = ((-1)))) => ?_)
      · rw [if_pos hc18] at hf
        refine hG.1 3 61 kb_230_61 _ _ _ rfl ?_
        exact hj_66 _ _ _ _ _ _ _ _ _ hf hk
      · rw [if_neg hc18] at hf
        refine And.intro (fun (hc17 : v2 = 0) => ?_) (fun (hc17 : ¬ (v2 = 0)) => ?_)
        · rw [if_pos hc17] at hf
          refine hG.1 2 48 kb_230_48 _ _ _ rfl ?_
          obtain ⟨r11, cr11, hf⟩ := Option.bind_eq_some_iff.mp hf
          refine And.intro (Nat.le_of_ble_eq_true rfl) (And.intro (Nat.le_of_ble_eq_true rfl) (And.intro (Nat.le_of_ble_eq_true rfl) (Exists.intro (some (.int r11)) (Exists.intro _ (And.intro (l_172 cr11) (?_))))))
          obtain ⟨r12, cr12, hf⟩ := Option.bind_eq_some_iff.mp hf
          refine And.intro (Nat.le_of_ble_eq_true rfl) (And.intro (Nat.le_of_ble_eq_true rfl) (And.intro (Nat.le_of_ble_eq_true rfl) (Exists.intro (some (.int r12)) (Exists.intro _ (And.intro (l_172 cr12) (?_))))))
          refine And.intro (fun (hc13 : r12 ≤ r11) => ?_) (fun (hc13 : ¬ (r12 ≤ r11)) => ?_)
          · rw [if_pos hc13] at hf
            refine hG.1 4 65 kb_230_65 _ _ _ rfl ?_
            exact hj_66 _ _ _ _ _ _ _ _ _ hf hk
          · rw [if_neg hc13] at hf
            refine hG.1 3 61 kb_230_61 _ _ _ rfl ?_
            exact hj_66 _ _ _ _ _ _ _ _ _ hf hk
        · rw [if_neg hc17] at hf
          obtain ⟨r14, cr14, hf⟩ := Option.bind_eq_some_iff.mp hf
          refine And.intro (Nat.le_of_ble_eq_true rfl) (And.intro (Nat.le_of_ble_eq_true rfl) (And.intro (Nat.le_of_ble_eq_true rfl) (Exists.intro (some (.int r14)) (Exists.intro _ (And.intro (l_172 cr14) (?_))))))
          obtain ⟨r15, cr15, hf⟩ := Option.bind_eq_some_iff.mp hf
          refine And.intro (Nat.le_of_ble_eq_true rfl) (And.intro (Nat.le_of_ble_eq_true rfl) (And.intro (Nat.le_of_ble_eq_true rfl) (Exists.intro (some (.int r15)) (Exists.intro _ (And.intro (l_172 cr15) (?_))))))
          refine And.intro (fun (hc16 : r14 ≤ r15) => ?_) (fun (hc16 : ¬ (r14 ≤ r15)) => ?_)
          · rw [if_pos hc16] at hf
            refine hG.1 4 65 kb_230_65 _ _ _ rfl ?_
            exact hj_66 _ _ _ _ _ _ _ _ _ hf hk
          · rw [if_neg hc16] at hf
            refine hG.1 3 61 kb_230_61 _ _ _ rfl ?_
            exact hj_66 _ _ _ _ _ _ _ _ _ hf hk
  unfold f_230 at hf
  refine hG.1 0 0 kb_230_0 _ _ _ rfl ?_
  obtain ⟨hg1, hf⟩ := pb_gd hf
  obtain ⟨h3, cr2, hf⟩ := Option.bind_eq_some_iff.mp hf
  refine And.intro hg1 (And.intro (Nat.le_of_ble_eq_true rfl) (And.intro (Nat.le_of_ble_eq_true rfl) (Exists.intro none (Exists.intro _ (And.intro (l_208 cr2) (?_))))))
  obtain ⟨hg4, hf⟩ := pb_gd hf
  obtain ⟨r5, cr5, hf⟩ := Option.bind_eq_some_iff.mp hf
  refine And.intro hg4 (And.intro (Nat.le_of_ble_eq_true rfl) (And.intro (Nat.le_of_ble_eq_true rfl) (Exists.intro (some (.int r5)) (Exists.intro _ (And.intro (l_203 cr5) (?_))))))
  obtain ⟨e20, he_e20, hf⟩ := Option.bind_eq_some_iff.mp hf
  refine hl_15 _ _ _ _ _ _ _ _ he_e20 ?_
  refine hG.1 8 107 kb_230_107 _ _ _ rfl ?_
  cases hf
  exact And.intro (fun z_ => absurd z_ (by decide)) (And.intro rfl rfl)
def f_235_77 (N : Nat) (h : pb_HP) (v0 : Nat) (v2 : Int32) (v3 : Int32) (v4 : Int32) (v5 : Int64) (v7 : Int32) (s0 : Int32) : Option ((Int64 × Int32) ⊕ (Int64)) :=
  if s0 = 0 then (some (.inl ((v5 + 0, v7 + 1)))) else (if pb_is h v0 11 then ((f_209 N h v0 v7).bind fun r12 => ((f_209 N h v0 (v7 ||| ((1 : Int32) <<< (v2 &&& 31)))).bind fun r13 => (if r12 = r13 then (some (.inl ((v5 + 0, v7 + 1)))) else (some (.inl ((v5 + 1, v7 + 1))))))) else none)
def f_235_55s (N : Nat) (h : pb_HP) (v0 : Nat) (v2 : Int32) (v3 : Int32) (v4 : Int32) (s : Int64 × Int32) : Option ((Int64 × Int32) ⊕ (Int64)) :=
  if 64 ≤ s.2 then (some (.inr s.1)) else (if ¬ (s.2 &&& (v4 ^^^ ((-1)))) = 0 then (f_235_77 N h v0 v2 v3 v4 s.1 s.2 0) else (f_235_77 N h v0 v2 v3 v4 s.1 s.2 1))
/-- PointedBenchModel.power -/
def f_235 (N : Nat) (h : pb_HP) (v0 : Nat) (v1 : Int32) (v2 : Int32) (v3 : Int32) : Option (Int64 × pb_HP) :=
  if pb_is h v0 11 then ((f_198 N (pb_pI h v0 0 0) v0 v1).bind fun (r2, h3) => (if r2 = 0 then (some (((-1), h3))) else (if pb_is h3 v0 11 then ((f_201 h3 v0 v2).bind fun r5 => (if r5 = 0 then (some (((-1), h3))) else ((f_202 h3 v0 v2).bind fun r6 => (if ¬ r6 = 0 then ((f_208 N h3 v0).bind fun h8 => (if pb_is h8 v0 11 then ((f_203 N h8 v0).bind fun r10 => ((pb_wl (f_235_55s N h8 v0 v2 v3 (r10 &&& (((1 : Int32) <<< (v2 &&& 31)) ^^^ ((-1))))) N ((0, 0))).bind fun e18 => ((f_172 N (r10 &&& (((1 : Int32) <<< (v2 &&& 31)) ^^^ ((-1))))).bind fun r19 => ((f_234 N 2 r19).bind fun r20 => ((f_233 N e18 r20 v3).bind fun r21 => (some ((r21, h8)))))))) else none)) else (some (((-1), h3))))))) else none))) else none
set_option maxRecDepth 4000 in
theorem l_235 {xs : List Int32} {d : Nat} {N : Nat} {h : pb_HP} {v0 : Nat} {v1 : Int32} {v2 : Int32} {v3 : Int32} {r : Int64} {hE : pb_HP} (hf : f_235 N h v0 v1 v2 v3 = some ((r, hE))) : pb_AR xs (d + 6) 235 h [.ref v0, .int v1, .int v2, .int v3] (some (.long r)) hE := by
  intro G hG
  have hc_ : pb_CODE 235 = kc_235 := rfl
  rw [hc_] at hG
  have hj_77 : ∀ (h : pb_HP) (v0 : Nat) (v2 : Int32) (v3 : Int32) (v4 : Int32) (v5 : Int64) (v7 : Int32) (s0 : Int32) x, f_235_77 N h v0 v2 v3 v4 v5 v7 s0 = some x → pb_kk (fun (s_ : Int64 × Int32) => G 55 [(0, .ref v0), (2, .int v2), (3, .int v3), (4, .int v4), (5, .long s_.1), (7, .int s_.2)] [] h) (fun (e_ : Int64) => G 119 [(3, .int v3), (4, .int v4), (5, .long e_)] [] h) x → G 77 [(0, .ref v0), (2, .int v2), (3, .int v3), (4, .int v4), (5, .long v5), (7, .int v7)] [.int s0] h := by
    intro h v0 v2 v3 v4 v5 v7 s0 x hf hk
    unfold f_235_77 at hf
    refine hG.1 5 77 kb_235_77 _ _ _ rfl ?_
    refine And.intro (fun (hc15 : s0 = 0) => ?_) (fun (hc15 : ¬ (s0 = 0)) => ?_)
    · rw [if_pos hc15] at hf
      refine hG.1 6 109 kb_235_109 _ _ _ rfl ?_
      refine hG.1 7 110 kb_235_110 _ _ _ rfl ?_
      cases hf
      exact hG.2 55 _ [0, 1, 2, 3, 4, 5] _ _ _ rfl hk
    · rw [if_neg hc15] at hf
      obtain ⟨hg11, hf⟩ := pb_gd hf
      obtain ⟨r12, cr12, hf⟩ := Option.bind_eq_some_iff.mp hf
      refine And.intro hg11 (And.intro (Nat.le_of_ble_eq_true rfl) (And.intro (Nat.le_of_ble_eq_true rfl) (Exists.intro (some (.int r12)) (Exists.intro _ (And.intro (l_209 cr12) (?_))))))
      obtain ⟨r13, cr13, hf⟩ := Option.bind_eq_some_iff.mp hf
      refine And.intro hg11 (And.intro (Nat.le_of_ble_eq_true rfl) (And.intro (Nat.le_of_ble_eq_true rfl) (Exists.intro (some (.int r13)) (Exists.intro _ (And.intro (l_209 cr13) (?_))))))
      refine And.intro (fun (hc14 : r12 = r13) => ?_) (fun (hc14 : ¬ (r12 = r13)) => ?_)
      · rw [if_pos hc14] at hf
        refine hG.1 6 109 kb_235_109 _ _ _ rfl ?_
        refine hG.1 7 110 kb_235_110 _ _ _ rfl ?_
        cases hf
        exact hG.2 55 _ [0, 1, 2, 3, 4, 5] _ _ _ rfl hk
      · rw [if_neg hc14] at hf
        refine hG.1 7 110 kb_235_110 _ _ _ rfl ?_
        cases hf
        exact hG.2 55 _ [0, 1, 2, 3, 4, 5] _ _ _ rfl hk
  have hl_55 : ∀ (h : pb_HP) (v0 : Nat) (v2 : Int32) (v3 : Int32) (v4 : Int32) (n_ : Nat) (s : Int64 × Int32) (e : Int64), pb_wl (f_235_55s N h v0 v2 v3 v4) n_ s = some e → G 119 [(3, .int v3), (4, .int v4), (5, .long e)] [] h → G 55 [(0, .ref v0), (2, .int v2), (3, .int v3), (4, .int v4), (5, .long s.1), (7, .int s.2)] [] h := by
    intro h v0 v2 v3 v4
    refine pb_wl_ind (I := fun (s : Int64 × Int32) => G 55 [(0, .ref v0), (2, .int v2), (3, .int v3), (4, .int v4), (5, .long s.1), (7, .int s.2)] [] h) (K := fun (e : Int64) => G 119 [(3, .int v3), (4, .int v4), (5, .long e)] [] h) (fun s x hf hk => ?_)
    unfold f_235_55s at hf
    refine hG.1 3 55 kb_235_55 _ _ _ rfl ?_
    refine And.intro (fun (hc17 : 64 ≤ s.2) => ?_) (fun (hc17 : ¬ (64 ≤ s.2)) => ?_)
    · rw [if_pos hc17] at hf
      cases hf
      exact hG.2 119 _ [2, 3, 4] _ _ _ rfl hk
    · rw [if_neg hc17] at hf
      refine And.intro (fun (hc16 : ¬ (s.2 &&& (v4 ^^^ ((-1)))) = 0) => ?_) (fun (hc16 : ¬ (¬ (s.2 &&& (v4 ^^^ ((-1)))) = 0)) => ?_)
      · rw [if_pos hc16] at hf
        refine hG.1 4 76 kb_235_76 _ _ _ rfl ?_
        exact hj_77 _ _ _ _ _ _ _ _ _ hf hk
      · rw [if_neg hc16] at hf
        exact hj_77 _ _ _ _ _ _ _ _ _ hf hk
  unfold f_235 at hf
  refine hG.1 0 0 kb_235_0 _ _ _ rfl ?_
  obtain ⟨hg1, hf⟩ := pb_gd hf
  refine And.intro hg1 (?_)
  obtain ⟨⟨r2, h3⟩, cr2, hf⟩ := Option.bind_eq_some_iff.mp hf
  try dsimp only at hf
  refine And.intro hg1 (And.intro (Nat.le_of_ble_eq_true rfl) (And.intro (Nat.le_of_ble_eq_true rfl) (Exists.intro (some (.int r2)) (Exists.intro _ (And.intro (l_198 cr2) (?_))))))
  refine And.intro (fun (hc24 : r2 = 0) => ?_) (fun (hc24 : ¬ (r2 = 0)) => ?_)
  · rw [if_pos hc24] at hf
    refine hG.1 1 29 kb_235_29 _ _ _ rfl ?_
    cases hf
    exact And.intro rfl rfl
  · rw [if_neg hc24] at hf
    obtain ⟨hg4, hf⟩ := pb_gd hf
    obtain ⟨r5, cr5, hf⟩ := Option.bind_eq_some_iff.mp hf
    refine And.intro hg4 (And.intro (Nat.le_of_ble_eq_true rfl) (And.intro (Nat.le_of_ble_eq_true rfl) (Exists.intro (some (.int r5)) (Exists.intro _ (And.intro (l_201 cr5) (?_))))))
    refine And.intro (fun (hc23 : r5 = 0) => ?_) (fun (hc23 : ¬ (r5 = 0)) => ?_)
    · rw [if_pos hc23] at hf
      refine hG.1 1 29 kb_235_29 _ _ _ rfl ?_
      cases hf
      exact And.intro rfl rfl
    · rw [if_neg hc23] at hf
      obtain ⟨r6, cr6, hf⟩ := Option.bind_eq_some_iff.mp hf
      refine And.intro hg4 (And.intro (Nat.le_of_ble_eq_true rfl) (And.intro (Nat.le_of_ble_eq_true rfl) (Exists.intro (some (.int r6)) (Exists.intro _ (And.intro (l_202 cr6) (?_))))))
      refine And.intro (fun (hc22 : ¬ r6 = 0) => ?_) (fun (hc22 : ¬ (¬ r6 = 0)) => ?_)
      · rw [if_pos hc22] at hf
        refine hG.1 2 33 kb_235_33 _ _ _ rfl ?_
        obtain ⟨h8, cr7, hf⟩ := Option.bind_eq_some_iff.mp hf
        refine And.intro hg4 (And.intro (Nat.le_of_ble_eq_true rfl) (And.intro (Nat.le_of_ble_eq_true rfl) (Exists.intro none (Exists.intro _ (And.intro (l_208 cr7) (?_))))))
        obtain ⟨hg9, hf⟩ := pb_gd hf
        obtain ⟨r10, cr10, hf⟩ := Option.bind_eq_some_iff.mp hf
        refine And.intro hg9 (And.intro (Nat.le_of_ble_eq_true rfl) (And.intro (Nat.le_of_ble_eq_true rfl) (Exists.intro (some (.int r10)) (Exists.intro _ (And.intro (l_203 cr10) (?_))))))
        obtain ⟨e18, he_e18, hf⟩ := Option.bind_eq_some_iff.mp hf
        refine hG.2 55 _ [0, 2, 3, 4, 5, 6] _ _ _ rfl ?_
        refine hl_55 _ _ _ _ _ _ _ _ he_e18 ?_
        refine hG.1 8 119 kb_235_119 _ _ _ rfl ?_
        obtain ⟨r19, cr19, hf⟩ := Option.bind_eq_some_iff.mp hf
        refine And.intro (Nat.le_of_ble_eq_true rfl) (And.intro (Nat.le_of_ble_eq_true rfl) (And.intro (Nat.le_of_ble_eq_true rfl) (Exists.intro (some (.int r19)) (Exists.intro _ (And.intro (l_172 cr19) (?_))))))
        obtain ⟨r20, cr20, hf⟩ := Option.bind_eq_some_iff.mp hf
        refine And.intro (Nat.le_of_ble_eq_true rfl) (And.intro (Nat.le_of_ble_eq_true rfl) (And.intro (Nat.le_of_ble_eq_true rfl) (Exists.intro (some (.long r20)) (Exists.intro _ (And.intro (l_234 cr20) (?_))))))
        obtain ⟨r21, cr21, hf⟩ := Option.bind_eq_some_iff.mp hf
        refine And.intro (Nat.le_of_ble_eq_true rfl) (And.intro (Nat.le_of_ble_eq_true rfl) (And.intro (Nat.le_of_ble_eq_true rfl) (Exists.intro (some (.long r21)) (Exists.intro _ (And.intro (l_233 cr21) (?_))))))
        cases hf
        exact And.intro rfl rfl
      · rw [if_neg hc22] at hf
        refine hG.1 1 29 kb_235_29 _ _ _ rfl ?_
        cases hf
        exact And.intro rfl rfl
def f_237_55 (N : Nat) (h : pb_HP) (v0 : Nat) (v2 : Int32) (v4 : Int32) (v5 : Int32) (v6 : Int32) (s0 : Int32) : Option ((Int32 × Int32 × Int32 × pb_HP) ⊕ (Int32 × Int32 × pb_HP)) :=
  (f_170 v4 v6).bind fun r10 => (some (.inl ((s0, r10, v5 + 1, h))))
def f_237_27s (N : Nat) (v0 : Nat) (v2 : Int32) (s : Int32 × Int32 × Int32 × pb_HP) : Option ((Int32 × Int32 × Int32 × pb_HP) ⊕ (Int32 × Int32 × pb_HP)) :=
  if 6 ≤ s.2.2.1 then (some (.inr ((s.1, s.2.1, s.2.2.2)))) else (if pb_is s.2.2.2 v0 11 then ((f_236 N s.2.2.2 v0 s.2.2.1).bind fun (r8, h9) => (if r8 ≤ s.2.1 then (f_237_55 N h9 v0 v2 s.2.1 s.2.2.1 r8 s.1) else (f_237_55 N h9 v0 v2 s.2.1 s.2.2.1 r8 s.2.2.1))) else none)
/-- PointedBenchModel.ban -/
def f_237 (N : Nat) (h : pb_HP) (v0 : Nat) (v1 : Int32) (v2 : Int32) : Option (Int32 × pb_HP) :=
  if pb_is h v0 11 then ((f_198 N (pb_pI h v0 0 0) v0 v1).bind fun (r2, h3) => (if ¬ r2 = 0 then (if pb_is h3 v0 11 then ((f_208 N h3 v0).bind fun h6 => ((pb_wl (f_237_27s N v0 v2) N ((0, (-1), 0, h6))).bind fun e13 => (if v2 = 0 then (some ((e13.1, e13.2.2))) else (some ((e13.2.1, e13.2.2)))))) else none) else (some (((-1), h3))))) else none
set_option maxRecDepth 4000 in
theorem l_237 {xs : List Int32} {d : Nat} {N : Nat} {h : pb_HP} {v0 : Nat} {v1 : Int32} {v2 : Int32} {r : Int32} {hE : pb_HP} (hf : f_237 N h v0 v1 v2 = some ((r, hE))) : pb_AR xs (d + 6) 237 h [.ref v0, .int v1, .int v2] (some (.int r)) hE := by
  intro G hG
  have hc_ : pb_CODE 237 = kc_237 := rfl
  rw [hc_] at hG
  have hj_55 : ∀ (h : pb_HP) (v0 : Nat) (v2 : Int32) (v4 : Int32) (v5 : Int32) (v6 : Int32) (s0 : Int32) x, f_237_55 N h v0 v2 v4 v5 v6 s0 = some x → pb_kk (fun (s_ : Int32 × Int32 × Int32 × pb_HP) => G 27 [(0, .ref v0), (2, .int v2), (3, .int s_.1), (4, .int s_.2.1), (5, .int s_.2.2.1)] [] s_.2.2.2) (fun (e_ : Int32 × Int32 × pb_HP) => G 71 [(2, .int v2), (3, .int e_.1), (4, .int e_.2.1)] [] e_.2.2) x → G 55 [(0, .ref v0), (2, .int v2), (4, .int v4), (5, .int v5), (6, .int v6)] [.int s0] h := by
    intro h v0 v2 v4 v5 v6 s0 x hf hk
    unfold f_237_55 at hf
    refine hG.1 4 55 kb_237_55 _ _ _ rfl ?_
    obtain ⟨r10, cr10, hf⟩ := Option.bind_eq_some_iff.mp hf
    refine And.intro (Nat.le_of_ble_eq_true rfl) (And.intro (Nat.le_of_ble_eq_true rfl) (And.intro (Nat.le_of_ble_eq_true rfl) (Exists.intro (some (.int r10)) (Exists.intro _ (And.intro (l_170 cr10) (?_))))))
    cases hf
    exact hG.2 27 _ [0, 1, 5, 2, 3] _ _ _ rfl hk
  have hl_27 : ∀ (v0 : Nat) (v2 : Int32) (n_ : Nat) (s : Int32 × Int32 × Int32 × pb_HP) (e : Int32 × Int32 × pb_HP), pb_wl (f_237_27s N v0 v2) n_ s = some e → G 71 [(2, .int v2), (3, .int e.1), (4, .int e.2.1)] [] e.2.2 → G 27 [(0, .ref v0), (2, .int v2), (3, .int s.1), (4, .int s.2.1), (5, .int s.2.2.1)] [] s.2.2.2 := by
    intro v0 v2
    refine pb_wl_ind (I := fun (s : Int32 × Int32 × Int32 × pb_HP) => G 27 [(0, .ref v0), (2, .int v2), (3, .int s.1), (4, .int s.2.1), (5, .int s.2.2.1)] [] s.2.2.2) (K := fun (e : Int32 × Int32 × pb_HP) => G 71 [(2, .int v2), (3, .int e.1), (4, .int e.2.1)] [] e.2.2) (fun s x hf hk => ?_)
    unfold f_237_27s at hf
    refine hG.1 2 27 kb_237_27 _ _ _ rfl ?_
    refine And.intro (fun (hc12 : 6 ≤ s.2.2.1) => ?_) (fun (hc12 : ¬ (6 ≤ s.2.2.1)) => ?_)
    · rw [if_pos hc12] at hf
      cases hf
      exact hG.2 71 _ [1, 2, 3] _ _ _ rfl hk
    · rw [if_neg hc12] at hf
      obtain ⟨hg7, hf⟩ := pb_gd hf
      obtain ⟨⟨r8, h9⟩, cr8, hf⟩ := Option.bind_eq_some_iff.mp hf
      try dsimp only at hf
      refine And.intro hg7 (And.intro (Nat.le_of_ble_eq_true rfl) (And.intro (Nat.le_of_ble_eq_true rfl) (Exists.intro (some (.int r8)) (Exists.intro _ (And.intro (l_236 cr8) (?_))))))
      refine And.intro (fun (hc11 : r8 ≤ s.2.1) => ?_) (fun (hc11 : ¬ (r8 ≤ s.2.1)) => ?_)
      · rw [if_pos hc11] at hf
        refine hG.1 3 54 kb_237_54 _ _ _ rfl ?_
        refine hG.2 55 _ [0, 1, 3, 4, 5] _ _ _ rfl ?_
        exact hj_55 _ _ _ _ _ _ _ _ hf hk
      · rw [if_neg hc11] at hf
        refine hG.2 55 _ [0, 1, 3, 4, 5] _ _ _ rfl ?_
        exact hj_55 _ _ _ _ _ _ _ _ hf hk
  unfold f_237 at hf
  refine hG.1 0 0 kb_237_0 _ _ _ rfl ?_
  obtain ⟨hg1, hf⟩ := pb_gd hf
  refine And.intro hg1 (?_)
  obtain ⟨⟨r2, h3⟩, cr2, hf⟩ := Option.bind_eq_some_iff.mp hf
  try dsimp only at hf
  refine And.intro hg1 (And.intro (Nat.le_of_ble_eq_true rfl) (And.intro (Nat.le_of_ble_eq_true rfl) (Exists.intro (some (.int r2)) (Exists.intro _ (And.intro (l_198 cr2) (?_))))))
  refine And.intro (fun (hc15 : ¬ r2 = 0) => ?_) (fun (hc15 : ¬ (¬ r2 = 0)) => ?_)
  · rw [if_pos hc15] at hf
    refine hG.1 1 15 kb_237_15 _ _ _ rfl ?_
    obtain ⟨hg4, hf⟩ := pb_gd hf
    obtain ⟨h6, cr5, hf⟩ := Option.bind_eq_some_iff.mp hf
    refine And.intro hg4 (And.intro (Nat.le_of_ble_eq_true rfl) (And.intro (Nat.le_of_ble_eq_true rfl) (Exists.intro none (Exists.intro _ (And.intro (l_208 cr5) (?_))))))
    obtain ⟨e13, he_e13, hf⟩ := Option.bind_eq_some_iff.mp hf
    refine hG.2 27 _ [0, 2, 3, 4, 5] _ _ _ rfl ?_
    refine hl_27 _ _ _ _ _ he_e13 ?_
    refine hG.1 5 71 kb_237_71 _ _ _ rfl ?_
    refine And.intro (fun (hc14 : v2 = 0) => ?_) (fun (hc14 : ¬ (v2 = 0)) => ?_)
    · rw [if_pos hc14] at hf
      refine hG.1 6 80 kb_237_80 _ _ _ rfl ?_
      refine hG.1 7 81 kb_237_81 _ _ _ rfl ?_
      cases hf
      exact And.intro (fun z_ => absurd z_ (by decide)) (And.intro rfl rfl)
    · rw [if_neg hc14] at hf
      refine hG.1 7 81 kb_237_81 _ _ _ rfl ?_
      cases hf
      exact And.intro (fun z_ => absurd z_ (by decide)) (And.intro rfl rfl)
  · rw [if_neg hc15] at hf
    cases hf
    exact And.intro (fun z_ => absurd z_ (by decide)) (And.intro rfl rfl)
/-- PointedBenchModel.fits -/
def f_255 (N : Nat) (h : pb_HP) (v0 : Nat) (v1 : Int32) (v2 : Int32) : Option (Int32 × pb_HP) :=
  if pb_is h v0 11 then ((f_251 N (pb_pI h v0 0 0) v0 v1).bind fun (r2, h3) => (if ¬ r2 = 0 then (if v2 < 10 then ((f_168 v2 2 7).bind fun r4 => (if r4 = 0 then (if ¬ v2 = 0 then (if ¬ v2 = 1 then (some (((-2), h3))) else (if pb_is h3 v0 11 then ((f_253 N h3 v0).bind fun r6 => (some ((r6, h3)))) else none)) else (if pb_is h3 v0 11 then (some ((pb_I h3 v0 41, h3))) else none)) else (if pb_is h3 v0 11 then ((f_254 N h3 v0 (v2 - 2)).bind fun r11 => (some ((r11, h3)))) else none))) else (if pb_is h3 v0 11 then (if (pb_I h3 v0 41) ≤ (v2 - 10) then (some (((-2), h3))) else ((pb_R h3 v0 40).bind fun q14 => (if pb_ar h3 q14 12 (v2 - 10) then (some ((pb_I h3 q14 (v2 - 10).toNatClampNeg, h3))) else none))) else none)) else (some (((-2), h3))))) else none
set_option maxRecDepth 4000 in
theorem l_255 {xs : List Int32} {d : Nat} {N : Nat} {h : pb_HP} {v0 : Nat} {v1 : Int32} {v2 : Int32} {r : Int32} {hE : pb_HP} (hf : f_255 N h v0 v1 v2 = some ((r, hE))) : pb_AR xs (d + 6) 255 h [.ref v0, .int v1, .int v2] (some (.int r)) hE := by
  intro G hG
  have hc_ : pb_CODE 255 = kc_255 := rfl
  rw [hc_] at hG
  unfold f_255 at hf
  refine hG.1 0 0 kb_255_0 _ _ _ rfl ?_
  obtain ⟨hg1, hf⟩ := pb_gd hf
  refine And.intro hg1 (?_)
  obtain ⟨⟨r2, h3⟩, cr2, hf⟩ := Option.bind_eq_some_iff.mp hf
  try dsimp only at hf
  refine And.intro hg1 (And.intro (Nat.le_of_ble_eq_true rfl) (And.intro (Nat.le_of_ble_eq_true rfl) (Exists.intro (some (.int r2)) (Exists.intro _ (And.intro (l_251 cr2) (?_))))))
  refine And.intro (fun (hc18 : ¬ r2 = 0) => ?_) (fun (hc18 : ¬ (¬ r2 = 0)) => ?_)
  · rw [if_pos hc18] at hf
    refine hG.1 1 16 kb_255_16 _ _ _ rfl ?_
    refine And.intro (fun (hc17 : v2 < 10) => ?_) (fun (hc17 : ¬ (v2 < 10)) => ?_)
    · rw [if_pos hc17] at hf
      refine hG.1 4 48 kb_255_48 _ _ _ rfl ?_
      obtain ⟨r4, cr4, hf⟩ := Option.bind_eq_some_iff.mp hf
      refine And.intro (Nat.le_of_ble_eq_true rfl) (And.intro (Nat.le_of_ble_eq_true rfl) (And.intro (Nat.le_of_ble_eq_true rfl) (Exists.intro (some (.int r4)) (Exists.intro _ (And.intro (l_168 cr4) (?_))))))
      refine And.intro (fun (hc12 : r4 = 0) => ?_) (fun (hc12 : ¬ (r4 = 0)) => ?_)
      · rw [if_pos hc12] at hf
        refine hG.1 5 66 kb_255_66 _ _ _ rfl ?_
        refine And.intro (fun (hc9 : ¬ v2 = 0) => ?_) (fun (hc9 : ¬ (¬ v2 = 0)) => ?_)
        · rw [if_pos hc9] at hf
          refine hG.1 6 77 kb_255_77 _ _ _ rfl ?_
          refine And.intro (fun (hc7 : ¬ v2 = 1) => ?_) (fun (hc7 : ¬ (¬ v2 = 1)) => ?_)
          · rw [if_pos hc7] at hf
            refine hG.1 7 89 kb_255_89 _ _ _ rfl ?_
            refine hG.1 8 91 kb_255_91 _ _ _ rfl ?_
            cases hf
            exact And.intro (fun z_ => absurd z_ (by decide)) (And.intro rfl rfl)
          · rw [if_neg hc7] at hf
            obtain ⟨hg5, hf⟩ := pb_gd hf
            obtain ⟨r6, cr6, hf⟩ := Option.bind_eq_some_iff.mp hf
            refine And.intro hg5 (And.intro (Nat.le_of_ble_eq_true rfl) (And.intro (Nat.le_of_ble_eq_true rfl) (Exists.intro (some (.int r6)) (Exists.intro _ (And.intro (l_253 cr6) (?_))))))
            refine hG.1 8 91 kb_255_91 _ _ _ rfl ?_
            cases hf
            exact And.intro (fun z_ => absurd z_ (by decide)) (And.intro rfl rfl)
        · rw [if_neg hc9] at hf
          obtain ⟨hg8, hf⟩ := pb_gd hf
          refine And.intro hg8 (?_)
          refine hG.1 8 91 kb_255_91 _ _ _ rfl ?_
          cases hf
          exact And.intro (fun z_ => absurd z_ (by decide)) (And.intro rfl rfl)
      · rw [if_neg hc12] at hf
        obtain ⟨hg10, hf⟩ := pb_gd hf
        obtain ⟨r11, cr11, hf⟩ := Option.bind_eq_some_iff.mp hf
        refine And.intro hg10 (And.intro (Nat.le_of_ble_eq_true rfl) (And.intro (Nat.le_of_ble_eq_true rfl) (Exists.intro (some (.int r11)) (Exists.intro _ (And.intro (l_254 cr11) (?_))))))
        cases hf
        exact And.intro (fun z_ => absurd z_ (by decide)) (And.intro rfl rfl)
    · rw [if_neg hc17] at hf
      obtain ⟨hg13, hf⟩ := pb_gd hf
      refine And.intro hg13 (?_)
      refine And.intro (fun (hc16 : (pb_I h3 v0 41) ≤ (v2 - 10)) => ?_) (fun (hc16 : ¬ ((pb_I h3 v0 41) ≤ (v2 - 10))) => ?_)
      · rw [if_pos hc16] at hf
        refine hG.1 2 45 kb_255_45 _ _ _ rfl ?_
        refine hG.1 3 47 kb_255_47 _ _ _ rfl ?_
        cases hf
        exact And.intro (fun z_ => absurd z_ (by decide)) (And.intro rfl rfl)
      · rw [if_neg hc16] at hf
        obtain ⟨q14, eq14, hf⟩ := Option.bind_eq_some_iff.mp hf
        obtain ⟨hg15, hf⟩ := pb_gd hf
        refine And.intro hg13 (Exists.intro q14 (And.intro eq14 (And.intro hg15 (?_))))
        refine hG.1 3 47 kb_255_47 _ _ _ rfl ?_
        cases hf
        exact And.intro (fun z_ => absurd z_ (by decide)) (And.intro rfl rfl)
  · rw [if_neg hc18] at hf
    cases hf
    exact And.intro (fun z_ => absurd z_ (by decide)) (And.intro rfl rfl)
/-- PointedBenchModel.best -/
def f_270 (N : Nat) (h : pb_HP) (v0 : Nat) (v1 : Int32) (v2 : Int32) : Option (Int32 × pb_HP) :=
  if pb_is h v0 11 then ((f_198 N (pb_pI h v0 0 0) v0 v1).bind fun (r2, h3) => (if ¬ r2 = 0 then (if v2 < 10 then (if v2 = 0 then (if pb_is h3 v0 11 then ((f_262 N h3 v0).bind fun r6 => (some ((r6, h3)))) else none) else if v2 = 1 then (if pb_is h3 v0 11 then ((f_264 N h3 v0).bind fun r9 => (some ((r9, h3)))) else none) else if v2 = 2 then (if pb_is h3 v0 11 then ((f_265 N h3 v0).bind fun r12 => (some ((r12, h3)))) else none) else if v2 = 3 then (if pb_is h3 v0 11 then ((f_266 N h3 v0).bind fun r15 => (some ((r15, h3)))) else none) else if v2 = 4 then (if pb_is h3 v0 11 then ((f_268 N h3 v0).bind fun r18 => ((f_172 N r18).bind fun r19 => (some ((r19, h3))))) else none) else if v2 = 5 then (if pb_is h3 v0 11 then ((f_268 N h3 v0).bind fun r22 => (some ((r22, h3)))) else none) else if v2 = 6 then (if pb_is h3 v0 11 then ((f_269 N h3 v0).bind fun r25 => (some ((r25, h3)))) else none) else (some (((-2), h3)))) else (if pb_is h3 v0 11 then ((f_200 h3 v0 (v2 - 10)).bind fun r27 => (if r27 = 0 then (some (((-2), h3))) else ((f_263 N h3 v0 (v2 - 10)).bind fun r28 => (some ((r28, h3)))))) else none)) else (some (((-2), h3))))) else none
set_option maxRecDepth 4000 in
theorem l_270 {xs : List Int32} {d : Nat} {N : Nat} {h : pb_HP} {v0 : Nat} {v1 : Int32} {v2 : Int32} {r : Int32} {hE : pb_HP} (hf : f_270 N h v0 v1 v2 = some ((r, hE))) : pb_AR xs (d + 6) 270 h [.ref v0, .int v1, .int v2] (some (.int r)) hE := by
  intro G hG
  have hc_ : pb_CODE 270 = kc_270 := rfl
  rw [hc_] at hG
  unfold f_270 at hf
  refine hG.1 0 0 kb_270_0 _ _ _ rfl ?_
  obtain ⟨hg1, hf⟩ := pb_gd hf
  refine And.intro hg1 (?_)
  obtain ⟨⟨r2, h3⟩, cr2, hf⟩ := Option.bind_eq_some_iff.mp hf
  try dsimp only at hf
  refine And.intro hg1 (And.intro (Nat.le_of_ble_eq_true rfl) (And.intro (Nat.le_of_ble_eq_true rfl) (Exists.intro (some (.int r2)) (Exists.intro _ (And.intro (l_198 cr2) (?_))))))
  refine And.intro (fun (hc31 : ¬ r2 = 0) => ?_) (fun (hc31 : ¬ (¬ r2 = 0)) => ?_)
  · rw [if_pos hc31] at hf
    refine hG.1 1 16 kb_270_16 _ _ _ rfl ?_
    refine And.intro (fun (hc30 : v2 < 10) => ?_) (fun (hc30 : ¬ (v2 < 10)) => ?_)
    · rw [if_pos hc30] at hf
      refine hG.1 4 47 kb_270_47 _ _ _ rfl ?_
      by_cases hc4 : v2 = 0
      · rw [if_pos hc4] at hf
        refine pb_gs (G := G) (tgt := 92) (show pb_swt 48 82 0 6 #[44, 49, 54, 59, 64, 72, 77] v2 = 92 by rw [hc4]; decide) ?_
        refine hG.1 5 92 kb_270_92 _ _ _ rfl ?_
        obtain ⟨hg5, hf⟩ := pb_gd hf
        obtain ⟨r6, cr6, hf⟩ := Option.bind_eq_some_iff.mp hf
        refine And.intro hg5 (And.intro (Nat.le_of_ble_eq_true rfl) (And.intro (Nat.le_of_ble_eq_true rfl) (Exists.intro (some (.int r6)) (Exists.intro _ (And.intro (l_262 cr6) (?_))))))
        cases hf
        exact And.intro (fun z_ => absurd z_ (by decide)) (And.intro rfl rfl)
      rw [if_neg hc4] at hf
      by_cases hc7 : v2 = 1
      · rw [if_pos hc7] at hf
        refine pb_gs (G := G) (tgt := 97) (show pb_swt 48 82 0 6 #[44, 49, 54, 59, 64, 72, 77] v2 = 97 by rw [hc7]; decide) ?_
        refine hG.1 6 97 kb_270_97 _ _ _ rfl ?_
        obtain ⟨hg8, hf⟩ := pb_gd hf
        obtain ⟨r9, cr9, hf⟩ := Option.bind_eq_some_iff.mp hf
        refine And.intro hg8 (And.intro (Nat.le_of_ble_eq_true rfl) (And.intro (Nat.le_of_ble_eq_true rfl) (Exists.intro (some (.int r9)) (Exists.intro _ (And.intro (l_264 cr9) (?_))))))
        cases hf
        exact And.intro (fun z_ => absurd z_ (by decide)) (And.intro rfl rfl)
      rw [if_neg hc7] at hf
      by_cases hc10 : v2 = 2
      · rw [if_pos hc10] at hf
        refine pb_gs (G := G) (tgt := 102) (show pb_swt 48 82 0 6 #[44, 49, 54, 59, 64, 72, 77] v2 = 102 by rw [hc10]; decide) ?_
        refine hG.1 7 102 kb_270_102 _ _ _ rfl ?_
        obtain ⟨hg11, hf⟩ := pb_gd hf
        obtain ⟨r12, cr12, hf⟩ := Option.bind_eq_some_iff.mp hf
        refine And.intro hg11 (And.intro (Nat.le_of_ble_eq_true rfl) (And.intro (Nat.le_of_ble_eq_true rfl) (Exists.intro (some (.int r12)) (Exists.intro _ (And.intro (l_265 cr12) (?_))))))
        cases hf
        exact And.intro (fun z_ => absurd z_ (by decide)) (And.intro rfl rfl)
      rw [if_neg hc10] at hf
      by_cases hc13 : v2 = 3
      · rw [if_pos hc13] at hf
        refine pb_gs (G := G) (tgt := 107) (show pb_swt 48 82 0 6 #[44, 49, 54, 59, 64, 72, 77] v2 = 107 by rw [hc13]; decide) ?_
        refine hG.1 8 107 kb_270_107 _ _ _ rfl ?_
        obtain ⟨hg14, hf⟩ := pb_gd hf
        obtain ⟨r15, cr15, hf⟩ := Option.bind_eq_some_iff.mp hf
        refine And.intro hg14 (And.intro (Nat.le_of_ble_eq_true rfl) (And.intro (Nat.le_of_ble_eq_true rfl) (Exists.intro (some (.int r15)) (Exists.intro _ (And.intro (l_266 cr15) (?_))))))
        cases hf
        exact And.intro (fun z_ => absurd z_ (by decide)) (And.intro rfl rfl)
      rw [if_neg hc13] at hf
      by_cases hc16 : v2 = 4
      · rw [if_pos hc16] at hf
        refine pb_gs (G := G) (tgt := 112) (show pb_swt 48 82 0 6 #[44, 49, 54, 59, 64, 72, 77] v2 = 112 by rw [hc16]; decide) ?_
        refine hG.1 9 112 kb_270_112 _ _ _ rfl ?_
        obtain ⟨hg17, hf⟩ := pb_gd hf
        obtain ⟨r18, cr18, hf⟩ := Option.bind_eq_some_iff.mp hf
        refine And.intro hg17 (And.intro (Nat.le_of_ble_eq_true rfl) (And.intro (Nat.le_of_ble_eq_true rfl) (Exists.intro (some (.int r18)) (Exists.intro _ (And.intro (l_268 cr18) (?_))))))
        obtain ⟨r19, cr19, hf⟩ := Option.bind_eq_some_iff.mp hf
        refine And.intro (Nat.le_of_ble_eq_true rfl) (And.intro (Nat.le_of_ble_eq_true rfl) (And.intro (Nat.le_of_ble_eq_true rfl) (Exists.intro (some (.int r19)) (Exists.intro _ (And.intro (l_172 cr19) (?_))))))
        cases hf
        exact And.intro (fun z_ => absurd z_ (by decide)) (And.intro rfl rfl)
      rw [if_neg hc16] at hf
      by_cases hc20 : v2 = 5
      · rw [if_pos hc20] at hf
        refine pb_gs (G := G) (tgt := 120) (show pb_swt 48 82 0 6 #[44, 49, 54, 59, 64, 72, 77] v2 = 120 by rw [hc20]; decide) ?_
        refine hG.1 10 120 kb_270_120 _ _ _ rfl ?_
        obtain ⟨hg21, hf⟩ := pb_gd hf
        obtain ⟨r22, cr22, hf⟩ := Option.bind_eq_some_iff.mp hf
        refine And.intro hg21 (And.intro (Nat.le_of_ble_eq_true rfl) (And.intro (Nat.le_of_ble_eq_true rfl) (Exists.intro (some (.int r22)) (Exists.intro _ (And.intro (l_268 cr22) (?_))))))
        cases hf
        exact And.intro (fun z_ => absurd z_ (by decide)) (And.intro rfl rfl)
      rw [if_neg hc20] at hf
      by_cases hc23 : v2 = 6
      · rw [if_pos hc23] at hf
        refine pb_gs (G := G) (tgt := 125) (show pb_swt 48 82 0 6 #[44, 49, 54, 59, 64, 72, 77] v2 = 125 by rw [hc23]; decide) ?_
        refine hG.1 11 125 kb_270_125 _ _ _ rfl ?_
        obtain ⟨hg24, hf⟩ := pb_gd hf
        obtain ⟨r25, cr25, hf⟩ := Option.bind_eq_some_iff.mp hf
        refine And.intro hg24 (And.intro (Nat.le_of_ble_eq_true rfl) (And.intro (Nat.le_of_ble_eq_true rfl) (Exists.intro (some (.int r25)) (Exists.intro _ (And.intro (l_269 cr25) (?_))))))
        cases hf
        exact And.intro (fun z_ => absurd z_ (by decide)) (And.intro rfl rfl)
      rw [if_neg hc23] at hf
      refine pb_gs (G := G) (tgt := 130) (show pb_swt 48 82 0 6 #[44, 49, 54, 59, 64, 72, 77] v2 = 130 from pb_swd (by decide) (by decide) (fun k_ hk_ => by
        have hk_ : k_ < 7 := hk_
        match k_, hk_ with
        | 0, _ => exact hc4
        | 1, _ => exact hc7
        | 2, _ => exact hc10
        | 3, _ => exact hc13
        | 4, _ => exact hc16
        | 5, _ => exact hc20
        | 6, _ => exact hc23
        | k_ + 7, hk_ => omega)) ?_
      refine hG.1 12 130 kb_270_130 _ _ _ rfl ?_
      cases hf
      exact And.intro (fun z_ => absurd z_ (by decide)) (And.intro rfl rfl)
    · rw [if_neg hc30] at hf
      obtain ⟨hg26, hf⟩ := pb_gd hf
      obtain ⟨r27, cr27, hf⟩ := Option.bind_eq_some_iff.mp hf
      refine And.intro hg26 (And.intro (Nat.le_of_ble_eq_true rfl) (And.intro (Nat.le_of_ble_eq_true rfl) (Exists.intro (some (.int r27)) (Exists.intro _ (And.intro (l_200 cr27) (?_))))))
      refine And.intro (fun (hc29 : r27 = 0) => ?_) (fun (hc29 : ¬ (r27 = 0)) => ?_)
      · rw [if_pos hc29] at hf
        refine hG.1 2 44 kb_270_44 _ _ _ rfl ?_
        refine hG.1 3 46 kb_270_46 _ _ _ rfl ?_
        cases hf
        exact And.intro (fun z_ => absurd z_ (by decide)) (And.intro rfl rfl)
      · rw [if_neg hc29] at hf
        obtain ⟨r28, cr28, hf⟩ := Option.bind_eq_some_iff.mp hf
        refine And.intro hg26 (And.intro (Nat.le_of_ble_eq_true rfl) (And.intro (Nat.le_of_ble_eq_true rfl) (Exists.intro (some (.int r28)) (Exists.intro _ (And.intro (l_263 cr28) (?_))))))
        refine hG.1 3 46 kb_270_46 _ _ _ rfl ?_
        cases hf
        exact And.intro (fun z_ => absurd z_ (by decide)) (And.intro rfl rfl)
  · rw [if_neg hc31] at hf
    cases hf
    exact And.intro (fun z_ => absurd z_ (by decide)) (And.intro rfl rfl)
def f_271_38s (N : Nat) (h : pb_HP) (v0 : Nat) (v2 : Int32) (v3 : Int32) (s : Int32 × Int32) : Option ((Int32 × Int32) ⊕ (Int32)) :=
  if 64 ≤ s.2 then (some (.inr s.1)) else (if ¬ (s.2 &&& (v3 ^^^ ((-1)))) = 0 then (some (.inl ((s.1 + 0, s.2 + 1)))) else (if pb_is h v0 11 then ((f_209 N h v0 s.2).bind fun r11 => (if ¬ r11 = v2 then (some (.inl ((s.1 + 0, s.2 + 1)))) else (some (.inl ((s.1 + 1, s.2 + 1)))))) else none))
/-- PointedBenchModel.benches -/
def f_271 (N : Nat) (h : pb_HP) (v0 : Nat) (v1 : Int32) (v2 : Int32) : Option (Int32 × pb_HP) :=
  if pb_is h v0 11 then ((f_198 N (pb_pI h v0 0 0) v0 v1).bind fun (r2, h3) => (if r2 = 0 then (some (((-1), h3))) else (if pb_is h3 v0 11 then ((f_200 h3 v0 v2).bind fun r5 => (if ¬ r5 = 0 then ((f_208 N h3 v0).bind fun h7 => (if pb_is h7 v0 11 then ((f_203 N h7 v0).bind fun r9 => ((pb_wl (f_271_38s N h7 v0 v2 r9) N ((0, 0))).bind fun e15 => (some ((e15, h7))))) else none)) else (some (((-1), h3))))) else none))) else none
set_option maxRecDepth 4000 in
theorem l_271 {xs : List Int32} {d : Nat} {N : Nat} {h : pb_HP} {v0 : Nat} {v1 : Int32} {v2 : Int32} {r : Int32} {hE : pb_HP} (hf : f_271 N h v0 v1 v2 = some ((r, hE))) : pb_AR xs (d + 6) 271 h [.ref v0, .int v1, .int v2] (some (.int r)) hE := by
  intro G hG
  have hc_ : pb_CODE 271 = kc_271 := rfl
  rw [hc_] at hG
  have hl_38 : ∀ (h : pb_HP) (v0 : Nat) (v2 : Int32) (v3 : Int32) (n_ : Nat) (s : Int32 × Int32) (e : Int32), pb_wl (f_271_38s N h v0 v2 v3) n_ s = some e → G 80 [(4, .int e)] [] h → G 38 [(0, .ref v0), (2, .int v2), (3, .int v3), (4, .int s.1), (5, .int s.2)] [] h := by
    intro h v0 v2 v3
    refine pb_wl_ind (I := fun (s : Int32 × Int32) => G 38 [(0, .ref v0), (2, .int v2), (3, .int v3), (4, .int s.1), (5, .int s.2)] [] h) (K := fun (e : Int32) => G 80 [(4, .int e)] [] h) (fun s x hf hk => ?_)
    unfold f_271_38s at hf
    refine hG.1 3 38 kb_271_38 _ _ _ rfl ?_
    refine And.intro (fun (hc14 : 64 ≤ s.2) => ?_) (fun (hc14 : ¬ (64 ≤ s.2)) => ?_)
    · rw [if_pos hc14] at hf
      cases hf
      exact hG.2 80 _ [3] _ _ _ rfl hk
    · rw [if_neg hc14] at hf
      refine And.intro (fun (hc13 : ¬ (s.2 &&& (v3 ^^^ ((-1)))) = 0) => ?_) (fun (hc13 : ¬ (¬ (s.2 &&& (v3 ^^^ ((-1)))) = 0)) => ?_)
      · rw [if_pos hc13] at hf
        refine hG.1 4 70 kb_271_70 _ _ _ rfl ?_
        refine hG.1 5 71 kb_271_71 _ _ _ rfl ?_
        cases hf
        exact hk
      · rw [if_neg hc13] at hf
        obtain ⟨hg10, hf⟩ := pb_gd hf
        obtain ⟨r11, cr11, hf⟩ := Option.bind_eq_some_iff.mp hf
        refine And.intro hg10 (And.intro (Nat.le_of_ble_eq_true rfl) (And.intro (Nat.le_of_ble_eq_true rfl) (Exists.intro (some (.int r11)) (Exists.intro _ (And.intro (l_209 cr11) (?_))))))
        refine And.intro (fun (hc12 : ¬ r11 = v2) => ?_) (fun (hc12 : ¬ (¬ r11 = v2)) => ?_)
        · rw [if_pos hc12] at hf
          refine hG.1 4 70 kb_271_70 _ _ _ rfl ?_
          refine hG.1 5 71 kb_271_71 _ _ _ rfl ?_
          cases hf
          exact hk
        · rw [if_neg hc12] at hf
          refine hG.1 5 71 kb_271_71 _ _ _ rfl ?_
          cases hf
          exact hk
  unfold f_271 at hf
  refine hG.1 0 0 kb_271_0 _ _ _ rfl ?_
  obtain ⟨hg1, hf⟩ := pb_gd hf
  refine And.intro hg1 (?_)
  obtain ⟨⟨r2, h3⟩, cr2, hf⟩ := Option.bind_eq_some_iff.mp hf
  try dsimp only at hf
  refine And.intro hg1 (And.intro (Nat.le_of_ble_eq_true rfl) (And.intro (Nat.le_of_ble_eq_true rfl) (Exists.intro (some (.int r2)) (Exists.intro _ (And.intro (l_198 cr2) (?_))))))
  refine And.intro (fun (hc17 : r2 = 0) => ?_) (fun (hc17 : ¬ (r2 = 0)) => ?_)
  · rw [if_pos hc17] at hf
    refine hG.1 1 21 kb_271_21 _ _ _ rfl ?_
    cases hf
    exact And.intro (fun z_ => absurd z_ (by decide)) (And.intro rfl rfl)
  · rw [if_neg hc17] at hf
    obtain ⟨hg4, hf⟩ := pb_gd hf
    obtain ⟨r5, cr5, hf⟩ := Option.bind_eq_some_iff.mp hf
    refine And.intro hg4 (And.intro (Nat.le_of_ble_eq_true rfl) (And.intro (Nat.le_of_ble_eq_true rfl) (Exists.intro (some (.int r5)) (Exists.intro _ (And.intro (l_200 cr5) (?_))))))
    refine And.intro (fun (hc16 : ¬ r5 = 0) => ?_) (fun (hc16 : ¬ (¬ r5 = 0)) => ?_)
    · rw [if_pos hc16] at hf
      refine hG.1 2 23 kb_271_23 _ _ _ rfl ?_
      obtain ⟨h7, cr6, hf⟩ := Option.bind_eq_some_iff.mp hf
      refine And.intro hg4 (And.intro (Nat.le_of_ble_eq_true rfl) (And.intro (Nat.le_of_ble_eq_true rfl) (Exists.intro none (Exists.intro _ (And.intro (l_208 cr6) (?_))))))
      obtain ⟨hg8, hf⟩ := pb_gd hf
      obtain ⟨r9, cr9, hf⟩ := Option.bind_eq_some_iff.mp hf
      refine And.intro hg8 (And.intro (Nat.le_of_ble_eq_true rfl) (And.intro (Nat.le_of_ble_eq_true rfl) (Exists.intro (some (.int r9)) (Exists.intro _ (And.intro (l_203 cr9) (?_))))))
      obtain ⟨e15, he_e15, hf⟩ := Option.bind_eq_some_iff.mp hf
      refine hG.2 38 _ [0, 2, 3, 4, 5] _ _ _ rfl ?_
      refine hl_38 _ _ _ _ _ _ _ he_e15 ?_
      refine hG.1 6 80 kb_271_80 _ _ _ rfl ?_
      cases hf
      exact And.intro (fun z_ => absurd z_ (by decide)) (And.intro rfl rfl)
    · rw [if_neg hc16] at hf
      refine hG.1 1 21 kb_271_21 _ _ _ rfl ?_
      cases hf
      exact And.intro (fun z_ => absurd z_ (by decide)) (And.intro rfl rfl)
def f_274_24s (N : Nat) (h : pb_HP) (v0 : Nat) (v2 : Int32) (s : Int32 × Int32) : Option ((Int32 × Int32) ⊕ (Int32)) :=
  if pb_is h v0 11 then (if (pb_I h v0 24) ≤ s.2 then (some (.inr s.1)) else ((f_273 N h v0 s.2).bind fun r8 => ((f_172 N r8).bind fun r9 => ((f_172 N s.1).bind fun r10 => (if r9 ≤ r10 then (some (.inl ((s.1, s.2 + 1)))) else ((f_273 N h v0 s.2).bind fun r11 => (some (.inl ((r11, s.2 + 1)))))))))) else none
/-- PointedBenchModel.gang -/
def f_274 (N : Nat) (h : pb_HP) (v0 : Nat) (v1 : Int32) (v2 : Int32) : Option (Int32 × pb_HP) :=
  if pb_is h v0 11 then ((f_198 N (pb_pI h v0 0 0) v0 v1).bind fun (r2, h3) => (if ¬ r2 = 0 then (if pb_is h3 v0 11 then ((f_208 N h3 v0).bind fun h6 => ((pb_wl (f_274_24s N h6 v0 v2) N ((0, 0))).bind fun e14 => (if v2 = 0 then ((f_172 N e14).bind fun r15 => (some ((r15, h6)))) else (some ((e14, h6)))))) else none) else (some (((-1), h3))))) else none
set_option maxRecDepth 4000 in
theorem l_274 {xs : List Int32} {d : Nat} {N : Nat} {h : pb_HP} {v0 : Nat} {v1 : Int32} {v2 : Int32} {r : Int32} {hE : pb_HP} (hf : f_274 N h v0 v1 v2 = some ((r, hE))) : pb_AR xs (d + 6) 274 h [.ref v0, .int v1, .int v2] (some (.int r)) hE := by
  intro G hG
  have hc_ : pb_CODE 274 = kc_274 := rfl
  rw [hc_] at hG
  have hl_24 : ∀ (h : pb_HP) (v0 : Nat) (v2 : Int32) (n_ : Nat) (s : Int32 × Int32) (e : Int32), pb_wl (f_274_24s N h v0 v2) n_ s = some e → G 66 [(2, .int v2), (3, .int e)] [] h → G 24 [(0, .ref v0), (2, .int v2), (3, .int s.1), (4, .int s.2)] [] h := by
    intro h v0 v2
    refine pb_wl_ind (I := fun (s : Int32 × Int32) => G 24 [(0, .ref v0), (2, .int v2), (3, .int s.1), (4, .int s.2)] [] h) (K := fun (e : Int32) => G 66 [(2, .int v2), (3, .int e)] [] h) (fun s x hf hk => ?_)
    unfold f_274_24s at hf
    refine hG.1 2 24 kb_274_24 _ _ _ rfl ?_
    obtain ⟨hg7, hf⟩ := pb_gd hf
    refine And.intro hg7 (?_)
    refine And.intro (fun (hc13 : (pb_I h v0 24) ≤ s.2) => ?_) (fun (hc13 : ¬ ((pb_I h v0 24) ≤ s.2)) => ?_)
    · rw [if_pos hc13] at hf
      cases hf
      exact hG.2 66 _ [1, 2] _ _ _ rfl hk
    · rw [if_neg hc13] at hf
      obtain ⟨r8, cr8, hf⟩ := Option.bind_eq_some_iff.mp hf
      refine And.intro hg7 (And.intro (Nat.le_of_ble_eq_true rfl) (And.intro (Nat.le_of_ble_eq_true rfl) (Exists.intro (some (.int r8)) (Exists.intro _ (And.intro (l_273 cr8) (?_))))))
      obtain ⟨r9, cr9, hf⟩ := Option.bind_eq_some_iff.mp hf
      refine And.intro (Nat.le_of_ble_eq_true rfl) (And.intro (Nat.le_of_ble_eq_true rfl) (And.intro (Nat.le_of_ble_eq_true rfl) (Exists.intro (some (.int r9)) (Exists.intro _ (And.intro (l_172 cr9) (?_))))))
      obtain ⟨r10, cr10, hf⟩ := Option.bind_eq_some_iff.mp hf
      refine And.intro (Nat.le_of_ble_eq_true rfl) (And.intro (Nat.le_of_ble_eq_true rfl) (And.intro (Nat.le_of_ble_eq_true rfl) (Exists.intro (some (.int r10)) (Exists.intro _ (And.intro (l_172 cr10) (?_))))))
      refine And.intro (fun (hc12 : r9 ≤ r10) => ?_) (fun (hc12 : ¬ (r9 ≤ r10)) => ?_)
      · rw [if_pos hc12] at hf
        refine hG.1 3 58 kb_274_58 _ _ _ rfl ?_
        refine hG.1 4 59 kb_274_59 _ _ _ rfl ?_
        cases hf
        exact hk
      · rw [if_neg hc12] at hf
        obtain ⟨r11, cr11, hf⟩ := Option.bind_eq_some_iff.mp hf
        refine And.intro hg7 (And.intro (Nat.le_of_ble_eq_true rfl) (And.intro (Nat.le_of_ble_eq_true rfl) (Exists.intro (some (.int r11)) (Exists.intro _ (And.intro (l_273 cr11) (?_))))))
        refine hG.1 4 59 kb_274_59 _ _ _ rfl ?_
        cases hf
        exact hk
  unfold f_274 at hf
  refine hG.1 0 0 kb_274_0 _ _ _ rfl ?_
  obtain ⟨hg1, hf⟩ := pb_gd hf
  refine And.intro hg1 (?_)
  obtain ⟨⟨r2, h3⟩, cr2, hf⟩ := Option.bind_eq_some_iff.mp hf
  try dsimp only at hf
  refine And.intro hg1 (And.intro (Nat.le_of_ble_eq_true rfl) (And.intro (Nat.le_of_ble_eq_true rfl) (Exists.intro (some (.int r2)) (Exists.intro _ (And.intro (l_198 cr2) (?_))))))
  refine And.intro (fun (hc17 : ¬ r2 = 0) => ?_) (fun (hc17 : ¬ (¬ r2 = 0)) => ?_)
  · rw [if_pos hc17] at hf
    refine hG.1 1 15 kb_274_15 _ _ _ rfl ?_
    obtain ⟨hg4, hf⟩ := pb_gd hf
    obtain ⟨h6, cr5, hf⟩ := Option.bind_eq_some_iff.mp hf
    refine And.intro hg4 (And.intro (Nat.le_of_ble_eq_true rfl) (And.intro (Nat.le_of_ble_eq_true rfl) (Exists.intro none (Exists.intro _ (And.intro (l_208 cr5) (?_))))))
    obtain ⟨e14, he_e14, hf⟩ := Option.bind_eq_some_iff.mp hf
    refine hG.2 24 _ [0, 2, 3, 4] _ _ _ rfl ?_
    refine hl_24 _ _ _ _ _ _ he_e14 ?_
    refine hG.1 5 66 kb_274_66 _ _ _ rfl ?_
    refine And.intro (fun (hc16 : v2 = 0) => ?_) (fun (hc16 : ¬ (v2 = 0)) => ?_)
    · rw [if_pos hc16] at hf
      refine hG.1 6 74 kb_274_74 _ _ _ rfl ?_
      obtain ⟨r15, cr15, hf⟩ := Option.bind_eq_some_iff.mp hf
      refine And.intro (Nat.le_of_ble_eq_true rfl) (And.intro (Nat.le_of_ble_eq_true rfl) (And.intro (Nat.le_of_ble_eq_true rfl) (Exists.intro (some (.int r15)) (Exists.intro _ (And.intro (l_172 cr15) (?_))))))
      refine hG.1 7 78 kb_274_78 _ _ _ rfl ?_
      cases hf
      exact And.intro (fun z_ => absurd z_ (by decide)) (And.intro rfl rfl)
    · rw [if_neg hc16] at hf
      refine hG.1 7 78 kb_274_78 _ _ _ rfl ?_
      cases hf
      exact And.intro (fun z_ => absurd z_ (by decide)) (And.intro rfl rfl)
  · rw [if_neg hc17] at hf
    cases hf
    exact And.intro (fun z_ => absurd z_ (by decide)) (And.intro rfl rfl)
def f_284_34s (N : Nat) (v0 : Nat) (v2 : Int32) (v3 : Int32) (s : Int32 × pb_HP) : Option ((Int32 × pb_HP) ⊕ (pb_HP)) :=
  if 6 ≤ s.1 then (some (.inr s.2)) else (if pb_is s.2 v0 11 then ((pb_R s.2 v0 43).bind fun q8 => (if pb_ar s.2 q8 12 s.1 then (some (.inl ((s.1 + 1, pb_pI s.2 q8 s.1.toNatClampNeg s.1)))) else none)) else none)
def f_284_59s (N : Nat) (v0 : Nat) (v2 : Int32) (v3 : Int32) (s : Int32 × pb_HP) : Option ((Int32 × pb_HP) ⊕ ((Int32 × pb_HP) ⊕ (pb_HP))) :=
  if s.1 = 0 then (some (.inr (.inr s.2))) else (if pb_is s.2 v0 11 then ((f_283 N s.2 v0).bind fun r13 => (if ¬ r13 = v2 then ((f_282 N s.2 v0).bind fun (r14, h15) => (some (.inl ((r14, h15))))) else ((pb_R s.2 v0 43).bind fun q16 => (if pb_ar s.2 q16 12 v3 then (some (.inr (.inl ((pb_I s.2 q16 v3.toNatClampNeg, s.2))))) else none)))) else none)
/-- PointedBenchModel.agenda -/
def f_284 (N : Nat) (h : pb_HP) (v0 : Nat) (v1 : Int32) (v2 : Int32) (v3 : Int32) : Option (Int32 × pb_HP) :=
  if pb_is h v0 11 then ((f_198 N (pb_pI h v0 0 0) v0 v1).bind fun (r2, h3) => (if r2 = 0 then (some (((-1), h3))) else (if pb_is h3 v0 11 then ((f_200 h3 v0 v2).bind fun r5 => (if r5 = 0 then (some (((-1), h3))) else ((f_200 h3 v0 v3).bind fun r6 => (if ¬ r6 = 0 then ((pb_wl (f_284_34s N v0 v2 v3) N ((0, h3))).bind fun e11 => ((pb_wl (f_284_59s N v0 v2 v3) N ((1, e11))).bind fun e20 => (match e20 with | .inl q22 => some q22 | .inr x21 => some (((-1), x21))))) else (some (((-1), h3))))))) else none))) else none
set_option maxRecDepth 4000 in
theorem l_284 {xs : List Int32} {d : Nat} {N : Nat} {h : pb_HP} {v0 : Nat} {v1 : Int32} {v2 : Int32} {v3 : Int32} {r : Int32} {hE : pb_HP} (hf : f_284 N h v0 v1 v2 v3 = some ((r, hE))) : pb_AR xs (d + 6) 284 h [.ref v0, .int v1, .int v2, .int v3] (some (.int r)) hE := by
  intro G hG
  have hc_ : pb_CODE 284 = kc_284 := rfl
  rw [hc_] at hG
  have hl_34 : ∀ (v0 : Nat) (v2 : Int32) (v3 : Int32) (n_ : Nat) (s : Int32 × pb_HP) (e : pb_HP), pb_wl (f_284_34s N v0 v2 v3) n_ s = some e → G 56 [(0, .ref v0), (2, .int v2), (3, .int v3)] [] e → G 34 [(0, .ref v0), (2, .int v2), (3, .int v3), (4, .int s.1)] [] s.2 := by
    intro v0 v2 v3
    refine pb_wl_ind (I := fun (s : Int32 × pb_HP) => G 34 [(0, .ref v0), (2, .int v2), (3, .int v3), (4, .int s.1)] [] s.2) (K := fun (e : pb_HP) => G 56 [(0, .ref v0), (2, .int v2), (3, .int v3)] [] e) (fun s x hf hk => ?_)
    unfold f_284_34s at hf
    refine hG.1 3 34 kb_284_34 _ _ _ rfl ?_
    refine And.intro (fun (hc10 : 6 ≤ s.1) => ?_) (fun (hc10 : ¬ (6 ≤ s.1)) => ?_)
    · rw [if_pos hc10] at hf
      cases hf
      exact hG.2 56 _ [0, 1, 2] _ _ _ rfl hk
    · rw [if_neg hc10] at hf
      obtain ⟨hg7, hf⟩ := pb_gd hf
      obtain ⟨q8, eq8, hf⟩ := Option.bind_eq_some_iff.mp hf
      obtain ⟨hg9, hf⟩ := pb_gd hf
      refine And.intro hg7 (Exists.intro q8 (And.intro eq8 (And.intro hg9 (?_))))
      cases hf
      exact hk
  have hl_59 : ∀ (v0 : Nat) (v2 : Int32) (v3 : Int32) (n_ : Nat) (s : Int32 × pb_HP) (e : (Int32 × pb_HP) ⊕ (pb_HP)), pb_wl (f_284_59s N v0 v2 v3) n_ s = some e → pb_kk (fun (q_ : Int32 × pb_HP) => q_ = (r, hE)) (fun (x_ : pb_HP) => G 88 [] [] x_) e → G 59 [(0, .ref v0), (2, .int v2), (3, .int v3), (4, .int s.1)] [] s.2 := by
    intro v0 v2 v3
    refine pb_wl_ind (I := fun (s : Int32 × pb_HP) => G 59 [(0, .ref v0), (2, .int v2), (3, .int v3), (4, .int s.1)] [] s.2) (K := fun (e : (Int32 × pb_HP) ⊕ (pb_HP)) => pb_kk (fun (q_ : Int32 × pb_HP) => q_ = (r, hE)) (fun (x_ : pb_HP) => G 88 [] [] x_) e) (fun s x hf hk => ?_)
    unfold f_284_59s at hf
    refine hG.1 5 59 kb_284_59 _ _ _ rfl ?_
    refine And.intro (fun (hc19 : s.1 = 0) => ?_) (fun (hc19 : ¬ (s.1 = 0)) => ?_)
    · rw [if_pos hc19] at hf
      cases hf
      exact hG.2 88 _ [] _ _ _ rfl hk
    · rw [if_neg hc19] at hf
      obtain ⟨hg12, hf⟩ := pb_gd hf
      obtain ⟨r13, cr13, hf⟩ := Option.bind_eq_some_iff.mp hf
      refine And.intro hg12 (And.intro (Nat.le_of_ble_eq_true rfl) (And.intro (Nat.le_of_ble_eq_true rfl) (Exists.intro (some (.int r13)) (Exists.intro _ (And.intro (l_283 cr13) (?_))))))
      refine And.intro (fun (hc18 : ¬ r13 = v2) => ?_) (fun (hc18 : ¬ (¬ r13 = v2)) => ?_)
      · rw [if_pos hc18] at hf
        refine hG.1 6 79 kb_284_79 _ _ _ rfl ?_
        obtain ⟨⟨r14, h15⟩, cr14, hf⟩ := Option.bind_eq_some_iff.mp hf
        try dsimp only at hf
        refine And.intro hg12 (And.intro (Nat.le_of_ble_eq_true rfl) (And.intro (Nat.le_of_ble_eq_true rfl) (Exists.intro (some (.int r14)) (Exists.intro _ (And.intro (l_282 cr14) (?_))))))
        cases hf
        exact hk
      · rw [if_neg hc18] at hf
        obtain ⟨q16, eq16, hf⟩ := Option.bind_eq_some_iff.mp hf
        obtain ⟨hg17, hf⟩ := pb_gd hf
        refine And.intro hg12 (Exists.intro q16 (And.intro eq16 (And.intro hg17 (?_))))
        cases hf
        cases hk
        exact And.intro (fun z_ => absurd z_ (by decide)) (And.intro rfl rfl)
  unfold f_284 at hf
  refine hG.1 0 0 kb_284_0 _ _ _ rfl ?_
  obtain ⟨hg1, hf⟩ := pb_gd hf
  refine And.intro hg1 (?_)
  obtain ⟨⟨r2, h3⟩, cr2, hf⟩ := Option.bind_eq_some_iff.mp hf
  try dsimp only at hf
  refine And.intro hg1 (And.intro (Nat.le_of_ble_eq_true rfl) (And.intro (Nat.le_of_ble_eq_true rfl) (Exists.intro (some (.int r2)) (Exists.intro _ (And.intro (l_198 cr2) (?_))))))
  refine And.intro (fun (hc25 : r2 = 0) => ?_) (fun (hc25 : ¬ (r2 = 0)) => ?_)
  · rw [if_pos hc25] at hf
    refine hG.1 1 29 kb_284_29 _ _ _ rfl ?_
    cases hf
    exact And.intro (fun z_ => absurd z_ (by decide)) (And.intro rfl rfl)
  · rw [if_neg hc25] at hf
    obtain ⟨hg4, hf⟩ := pb_gd hf
    obtain ⟨r5, cr5, hf⟩ := Option.bind_eq_some_iff.mp hf
    refine And.intro hg4 (And.intro (Nat.le_of_ble_eq_true rfl) (And.intro (Nat.le_of_ble_eq_true rfl) (Exists.intro (some (.int r5)) (Exists.intro _ (And.intro (l_200 cr5) (?_))))))
    refine And.intro (fun (hc24 : r5 = 0) => ?_) (fun (hc24 : ¬ (r5 = 0)) => ?_)
    · rw [if_pos hc24] at hf
      refine hG.1 1 29 kb_284_29 _ _ _ rfl ?_
      cases hf
      exact And.intro (fun z_ => absurd z_ (by decide)) (And.intro rfl rfl)
    · rw [if_neg hc24] at hf
      obtain ⟨r6, cr6, hf⟩ := Option.bind_eq_some_iff.mp hf
      refine And.intro hg4 (And.intro (Nat.le_of_ble_eq_true rfl) (And.intro (Nat.le_of_ble_eq_true rfl) (Exists.intro (some (.int r6)) (Exists.intro _ (And.intro (l_200 cr6) (?_))))))
      refine And.intro (fun (hc23 : ¬ r6 = 0) => ?_) (fun (hc23 : ¬ (¬ r6 = 0)) => ?_)
      · rw [if_pos hc23] at hf
        refine hG.1 2 31 kb_284_31 _ _ _ rfl ?_
        obtain ⟨e11, he_e11, hf⟩ := Option.bind_eq_some_iff.mp hf
        refine hG.2 34 _ [0, 2, 3, 4] _ _ _ rfl ?_
        refine hl_34 _ _ _ _ _ _ he_e11 ?_
        refine hG.1 4 56 kb_284_56 _ _ _ rfl ?_
        obtain ⟨e20, he_e20, hf⟩ := Option.bind_eq_some_iff.mp hf
        refine hl_59 _ _ _ _ _ _ he_e20 ?_
        cases e20 with
        | inl q22 =>
          exact Option.some.inj hf
        | inr x21 =>
          try dsimp only at hf
          refine hG.1 7 88 kb_284_88 _ _ _ rfl ?_
          cases hf
          exact And.intro (fun z_ => absurd z_ (by decide)) (And.intro rfl rfl)
      · rw [if_neg hc23] at hf
        refine hG.1 1 29 kb_284_29 _ _ _ rfl ?_
        cases hf
        exact And.intro (fun z_ => absurd z_ (by decide)) (And.intro rfl rfl)
def f_287_73 (N : Nat) (h : pb_HP) (v0 : Nat) (v2 : Int32) (v3 : Int32) (v4 : Int32) (v6 : Int32) (v7 : Int32) (v8 : Int32) (s0 : Int32) : Option ((Int32 × Int32 × Int32 × pb_HP) ⊕ (Int32 × Int32 × pb_HP)) :=
  (f_171 v6 v8).bind fun r10 => (some (.inl ((s0, r10, v7 + 1, h))))
def f_287_42s (N : Nat) (v0 : Nat) (v2 : Int32) (v3 : Int32) (v4 : Int32) (s : Int32 × Int32 × Int32 × pb_HP) : Option ((Int32 × Int32 × Int32 × pb_HP) ⊕ (Int32 × Int32 × pb_HP)) :=
  if 6 ≤ s.2.2.1 then (some (.inr ((s.1, s.2.1, s.2.2.2)))) else (if pb_is s.2.2.2 v0 11 then ((f_286 N s.2.2.2 v0 v2 v3 s.2.2.1).bind fun (r8, h9) => (if s.2.1 ≤ r8 then (f_287_73 N h9 v0 v2 v3 v4 s.2.1 s.2.2.1 r8 s.1) else (f_287_73 N h9 v0 v2 v3 v4 s.2.1 s.2.2.1 r8 s.2.2.1))) else none)
/-- PointedBenchModel.bun -/
def f_287 (N : Nat) (h : pb_HP) (v0 : Nat) (v1 : Int32) (v2 : Int32) (v3 : Int32) (v4 : Int32) : Option (Int32 × pb_HP) :=
  if pb_is h v0 11 then ((f_198 N (pb_pI h v0 0 0) v0 v1).bind fun (r2, h3) => (if r2 = 0 then (some (((-1), h3))) else (if pb_is h3 v0 11 then ((f_201 h3 v0 v2).bind fun r5 => (if r5 = 0 then (some (((-1), h3))) else ((f_200 h3 v0 v3).bind fun r6 => (if ¬ r6 = 0 then ((pb_wl (f_287_42s N v0 v2 v3 v4) N (((-1), 1000000, 0, h3))).bind fun e13 => (if e13.1 = ((-1)) then (some ((e13.1, e13.2.2))) else (if v4 = 0 then (some ((e13.2.1, e13.2.2))) else (some ((e13.1, e13.2.2)))))) else (some (((-1), h3))))))) else none))) else none
set_option maxRecDepth 4000 in
theorem l_287 {xs : List Int32} {d : Nat} {N : Nat} {h : pb_HP} {v0 : Nat} {v1 : Int32} {v2 : Int32} {v3 : Int32} {v4 : Int32} {r : Int32} {hE : pb_HP} (hf : f_287 N h v0 v1 v2 v3 v4 = some ((r, hE))) : pb_AR xs (d + 6) 287 h [.ref v0, .int v1, .int v2, .int v3, .int v4] (some (.int r)) hE := by
  intro G hG
  have hc_ : pb_CODE 287 = kc_287 := rfl
  rw [hc_] at hG
  have hj_73 : ∀ (h : pb_HP) (v0 : Nat) (v2 : Int32) (v3 : Int32) (v4 : Int32) (v6 : Int32) (v7 : Int32) (v8 : Int32) (s0 : Int32) x, f_287_73 N h v0 v2 v3 v4 v6 v7 v8 s0 = some x → pb_kk (fun (s_ : Int32 × Int32 × Int32 × pb_HP) => G 42 [(0, .ref v0), (2, .int v2), (3, .int v3), (4, .int v4), (5, .int s_.1), (6, .int s_.2.1), (7, .int s_.2.2.1)] [] s_.2.2.2) (fun (e_ : Int32 × Int32 × pb_HP) => G 90 [(4, .int v4), (5, .int e_.1), (6, .int e_.2.1)] [] e_.2.2) x → G 73 [(0, .ref v0), (2, .int v2), (3, .int v3), (4, .int v4), (6, .int v6), (7, .int v7), (8, .int v8)] [.int s0] h := by
    intro h v0 v2 v3 v4 v6 v7 v8 s0 x hf hk
    unfold f_287_73 at hf
    refine hG.1 5 73 kb_287_73 _ _ _ rfl ?_
    obtain ⟨r10, cr10, hf⟩ := Option.bind_eq_some_iff.mp hf
    refine And.intro (Nat.le_of_ble_eq_true rfl) (And.intro (Nat.le_of_ble_eq_true rfl) (And.intro (Nat.le_of_ble_eq_true rfl) (Exists.intro (some (.int r10)) (Exists.intro _ (And.intro (l_171 cr10) (?_))))))
    cases hf
    exact hG.2 42 _ [0, 1, 2, 3, 7, 4, 5] _ _ _ rfl hk
  have hl_42 : ∀ (v0 : Nat) (v2 : Int32) (v3 : Int32) (v4 : Int32) (n_ : Nat) (s : Int32 × Int32 × Int32 × pb_HP) (e : Int32 × Int32 × pb_HP), pb_wl (f_287_42s N v0 v2 v3 v4) n_ s = some e → G 90 [(4, .int v4), (5, .int e.1), (6, .int e.2.1)] [] e.2.2 → G 42 [(0, .ref v0), (2, .int v2), (3, .int v3), (4, .int v4), (5, .int s.1), (6, .int s.2.1), (7, .int s.2.2.1)] [] s.2.2.2 := by
    intro v0 v2 v3 v4
    refine pb_wl_ind (I := fun (s : Int32 × Int32 × Int32 × pb_HP) => G 42 [(0, .ref v0), (2, .int v2), (3, .int v3), (4, .int v4), (5, .int s.1), (6, .int s.2.1), (7, .int s.2.2.1)] [] s.2.2.2) (K := fun (e : Int32 × Int32 × pb_HP) => G 90 [(4, .int v4), (5, .int e.1), (6, .int e.2.1)] [] e.2.2) (fun s x hf hk => ?_)
    unfold f_287_42s at hf
    refine hG.1 3 42 kb_287_42 _ _ _ rfl ?_
    refine And.intro (fun (hc12 : 6 ≤ s.2.2.1) => ?_) (fun (hc12 : ¬ (6 ≤ s.2.2.1)) => ?_)
    · rw [if_pos hc12] at hf
      cases hf
      exact hG.2 90 _ [3, 4, 5] _ _ _ rfl hk
    · rw [if_neg hc12] at hf
      obtain ⟨hg7, hf⟩ := pb_gd hf
      obtain ⟨⟨r8, h9⟩, cr8, hf⟩ := Option.bind_eq_some_iff.mp hf
      try dsimp only at hf
      refine And.intro hg7 (And.intro (Nat.le_of_ble_eq_true rfl) (And.intro (Nat.le_of_ble_eq_true rfl) (Exists.intro (some (.int r8)) (Exists.intro _ (And.intro (l_286 cr8) (?_))))))
      refine And.intro (fun (hc11 : s.2.1 ≤ r8) => ?_) (fun (hc11 : ¬ (s.2.1 ≤ r8)) => ?_)
      · rw [if_pos hc11] at hf
        refine hG.1 4 71 kb_287_71 _ _ _ rfl ?_
        refine hG.2 73 _ [0, 1, 2, 3, 5, 6, 7] _ _ _ rfl ?_
        exact hj_73 _ _ _ _ _ _ _ _ _ _ hf hk
      · rw [if_neg hc11] at hf
        refine hG.2 73 _ [0, 1, 2, 3, 5, 6, 7] _ _ _ rfl ?_
        exact hj_73 _ _ _ _ _ _ _ _ _ _ hf hk
  unfold f_287 at hf
  refine hG.1 0 0 kb_287_0 _ _ _ rfl ?_
  obtain ⟨hg1, hf⟩ := pb_gd hf
  refine And.intro hg1 (?_)
  obtain ⟨⟨r2, h3⟩, cr2, hf⟩ := Option.bind_eq_some_iff.mp hf
  try dsimp only at hf
  refine And.intro hg1 (And.intro (Nat.le_of_ble_eq_true rfl) (And.intro (Nat.le_of_ble_eq_true rfl) (Exists.intro (some (.int r2)) (Exists.intro _ (And.intro (l_198 cr2) (?_))))))
  refine And.intro (fun (hc18 : r2 = 0) => ?_) (fun (hc18 : ¬ (r2 = 0)) => ?_)
  · rw [if_pos hc18] at hf
    refine hG.1 1 29 kb_287_29 _ _ _ rfl ?_
    cases hf
    exact And.intro (fun z_ => absurd z_ (by decide)) (And.intro rfl rfl)
  · rw [if_neg hc18] at hf
    obtain ⟨hg4, hf⟩ := pb_gd hf
    obtain ⟨r5, cr5, hf⟩ := Option.bind_eq_some_iff.mp hf
    refine And.intro hg4 (And.intro (Nat.le_of_ble_eq_true rfl) (And.intro (Nat.le_of_ble_eq_true rfl) (Exists.intro (some (.int r5)) (Exists.intro _ (And.intro (l_201 cr5) (?_))))))
    refine And.intro (fun (hc17 : r5 = 0) => ?_) (fun (hc17 : ¬ (r5 = 0)) => ?_)
    · rw [if_pos hc17] at hf
      refine hG.1 1 29 kb_287_29 _ _ _ rfl ?_
      cases hf
      exact And.intro (fun z_ => absurd z_ (by decide)) (And.intro rfl rfl)
    · rw [if_neg hc17] at hf
      obtain ⟨r6, cr6, hf⟩ := Option.bind_eq_some_iff.mp hf
      refine And.intro hg4 (And.intro (Nat.le_of_ble_eq_true rfl) (And.intro (Nat.le_of_ble_eq_true rfl) (Exists.intro (some (.int r6)) (Exists.intro _ (And.intro (l_200 cr6) (?_))))))
      refine And.intro (fun (hc16 : ¬ r6 = 0) => ?_) (fun (hc16 : ¬ (¬ r6 = 0)) => ?_)
      · rw [if_pos hc16] at hf
        refine hG.1 2 31 kb_287_31 _ _ _ rfl ?_
        obtain ⟨e13, he_e13, hf⟩ := Option.bind_eq_some_iff.mp hf
        refine hG.2 42 _ [0, 2, 3, 4, 5, 6, 7] _ _ _ rfl ?_
        refine hl_42 _ _ _ _ _ _ _ he_e13 ?_
        refine hG.1 6 90 kb_287_90 _ _ _ rfl ?_
        refine And.intro (fun (hc15 : e13.1 = ((-1))) => ?_) (fun (hc15 : ¬ (e13.1 = ((-1)))) => ?_)
        · rw [if_pos hc15] at hf
          refine hG.1 7 101 kb_287_101 _ _ _ rfl ?_
          refine hG.1 9 108 kb_287_108 _ _ _ rfl ?_
          cases hf
          exact And.intro (fun z_ => absurd z_ (by decide)) (And.intro rfl rfl)
        · rw [if_neg hc15] at hf
          refine And.intro (fun (hc14 : v4 = 0) => ?_) (fun (hc14 : ¬ (v4 = 0)) => ?_)
          · rw [if_pos hc14] at hf
            refine hG.1 8 106 kb_287_106 _ _ _ rfl ?_
            refine hG.1 9 108 kb_287_108 _ _ _ rfl ?_
            cases hf
            exact And.intro (fun z_ => absurd z_ (by decide)) (And.intro rfl rfl)
          · rw [if_neg hc14] at hf
            refine hG.1 7 101 kb_287_101 _ _ _ rfl ?_
            refine hG.1 9 108 kb_287_108 _ _ _ rfl ?_
            cases hf
            exact And.intro (fun z_ => absurd z_ (by decide)) (And.intro rfl rfl)
      · rw [if_neg hc16] at hf
        refine hG.1 1 29 kb_287_29 _ _ _ rfl ?_
        cases hf
        exact And.intro (fun z_ => absurd z_ (by decide)) (And.intro rfl rfl)
/-- PointedBenchModel.odds -/
def f_300 (N : Nat) (h : pb_HP) (v0 : Nat) (v1 : Int32) (v2 : Int32) (v3 : Int32) (v4 : Int32) : Option (Int64 × pb_HP) :=
  if pb_is h v0 11 then ((f_168 v2 0 63).bind fun r2 => (if r2 = 0 then (some (((-1), pb_pI h v0 0 0))) else ((f_168 v3 0 63).bind fun r3 => (if r3 = 0 then (some (((-1), pb_pI h v0 0 0))) else ((f_251 N (pb_pI h v0 0 0) v0 v1).bind fun (r4, h5) => (if r4 = 0 then (some (((-1), h5))) else (if pb_is h5 v0 11 then (if ¬ (pb_I h5 v0 41) = 0 then ((f_252 N h5 v0 v2 v3).bind fun r7 => ((f_233 N (Int32.toInt64 r7) (Int32.toInt64 (pb_I h5 v0 41)) v4).bind fun r8 => (some ((r8, h5))))) else (some (((-1), h5)))) else none))))))) else none
set_option maxRecDepth 4000 in
theorem l_300 {xs : List Int32} {d : Nat} {N : Nat} {h : pb_HP} {v0 : Nat} {v1 : Int32} {v2 : Int32} {v3 : Int32} {v4 : Int32} {r : Int64} {hE : pb_HP} (hf : f_300 N h v0 v1 v2 v3 v4 = some ((r, hE))) : pb_AR xs (d + 6) 300 h [.ref v0, .int v1, .int v2, .int v3, .int v4] (some (.long r)) hE := by
  intro G hG
  have hc_ : pb_CODE 300 = kc_300 := rfl
  rw [hc_] at hG
  unfold f_300 at hf
  refine hG.1 0 0 kb_300_0 _ _ _ rfl ?_
  obtain ⟨hg1, hf⟩ := pb_gd hf
  refine And.intro hg1 (?_)
  obtain ⟨r2, cr2, hf⟩ := Option.bind_eq_some_iff.mp hf
  refine And.intro (Nat.le_of_ble_eq_true rfl) (And.intro (Nat.le_of_ble_eq_true rfl) (And.intro (Nat.le_of_ble_eq_true rfl) (Exists.intro (some (.int r2)) (Exists.intro _ (And.intro (l_168 cr2) (?_))))))
  refine And.intro (fun (hc12 : r2 = 0) => ?_) (fun (hc12 : ¬ (r2 = 0)) => ?_)
  · rw [if_pos hc12] at hf
    refine hG.1 1 40 kb_300_40 _ _ _ rfl ?_
    cases hf
    exact And.intro rfl rfl
  · rw [if_neg hc12] at hf
    obtain ⟨r3, cr3, hf⟩ := Option.bind_eq_some_iff.mp hf
    refine And.intro (Nat.le_of_ble_eq_true rfl) (And.intro (Nat.le_of_ble_eq_true rfl) (And.intro (Nat.le_of_ble_eq_true rfl) (Exists.intro (some (.int r3)) (Exists.intro _ (And.intro (l_168 cr3) (?_))))))
    refine And.intro (fun (hc11 : r3 = 0) => ?_) (fun (hc11 : ¬ (r3 = 0)) => ?_)
    · rw [if_pos hc11] at hf
      refine hG.1 1 40 kb_300_40 _ _ _ rfl ?_
      cases hf
      exact And.intro rfl rfl
    · rw [if_neg hc11] at hf
      obtain ⟨⟨r4, h5⟩, cr4, hf⟩ := Option.bind_eq_some_iff.mp hf
      try dsimp only at hf
      refine And.intro hg1 (And.intro (Nat.le_of_ble_eq_true rfl) (And.intro (Nat.le_of_ble_eq_true rfl) (Exists.intro (some (.int r4)) (Exists.intro _ (And.intro (l_251 cr4) (?_))))))
      refine And.intro (fun (hc10 : r4 = 0) => ?_) (fun (hc10 : ¬ (r4 = 0)) => ?_)
      · rw [if_pos hc10] at hf
        refine hG.1 1 40 kb_300_40 _ _ _ rfl ?_
        cases hf
        exact And.intro rfl rfl
      · rw [if_neg hc10] at hf
        obtain ⟨hg6, hf⟩ := pb_gd hf
        refine And.intro hg6 (?_)
        refine And.intro (fun (hc9 : ¬ (pb_I h5 v0 41) = 0) => ?_) (fun (hc9 : ¬ (¬ (pb_I h5 v0 41) = 0)) => ?_)
        · rw [if_pos hc9] at hf
          refine hG.1 2 44 kb_300_44 _ _ _ rfl ?_
          obtain ⟨r7, cr7, hf⟩ := Option.bind_eq_some_iff.mp hf
          refine And.intro hg6 (And.intro (Nat.le_of_ble_eq_true rfl) (And.intro (Nat.le_of_ble_eq_true rfl) (Exists.intro (some (.int r7)) (Exists.intro _ (And.intro (l_252 cr7) (?_))))))
          refine And.intro hg6 (?_)
          obtain ⟨r8, cr8, hf⟩ := Option.bind_eq_some_iff.mp hf
          refine And.intro (Nat.le_of_ble_eq_true rfl) (And.intro (Nat.le_of_ble_eq_true rfl) (And.intro (Nat.le_of_ble_eq_true rfl) (Exists.intro (some (.long r8)) (Exists.intro _ (And.intro (l_233 cr8) (?_))))))
          cases hf
          exact And.intro rfl rfl
        · rw [if_neg hc9] at hf
          refine hG.1 1 40 kb_300_40 _ _ _ rfl ?_
          cases hf
          exact And.intro rfl rfl
def f_301_37s (N : Nat) (h : pb_HP) (v0 : Nat) (v2 : Int32) (s : Int32 × Int32) : Option ((Int32 × Int32) ⊕ (Int32)) :=
  if pb_is h v0 11 then (if (pb_I h v0 41) ≤ s.2 then (some (.inr s.1)) else ((pb_R h v0 40).bind fun q9 => (if pb_ar h q9 12 s.2 then ((f_248 N (pb_I h q9 s.2.toNatClampNeg) 63).bind fun r11 => (if v2 = 0 then ((f_171 s.1 r11).bind fun r12 => (some (.inl ((r12, s.2 + 1))))) else ((f_170 s.1 r11).bind fun r13 => (some (.inl ((r13, s.2 + 1))))))) else none))) else none
/-- PointedBenchModel.low -/
def f_301 (N : Nat) (h : pb_HP) (v0 : Nat) (v1 : Int32) (v2 : Int32) : Option (Int32 × pb_HP) :=
  if pb_is h v0 11 then ((f_251 N (pb_pI h v0 0 0) v0 v1).bind fun (r2, h3) => (if r2 = 0 then (some (((-1), h3))) else (if pb_is h3 v0 11 then (if ¬ (pb_I h3 v0 41) = 0 then ((pb_R h3 v0 40).bind fun q5 => (if pb_ar h3 q5 12 0 then ((f_248 N (pb_I h3 q5 (0 : Int32).toNatClampNeg) 63).bind fun r7 => ((pb_wl (f_301_37s N h3 v0 v2) N ((r7, 0))).bind fun e16 => (some ((e16, h3))))) else none)) else (some (((-1), h3)))) else none))) else none
set_option maxRecDepth 4000 in
theorem l_301 {xs : List Int32} {d : Nat} {N : Nat} {h : pb_HP} {v0 : Nat} {v1 : Int32} {v2 : Int32} {r : Int32} {hE : pb_HP} (hf : f_301 N h v0 v1 v2 = some ((r, hE))) : pb_AR xs (d + 6) 301 h [.ref v0, .int v1, .int v2] (some (.int r)) hE := by
  intro G hG
  have hc_ : pb_CODE 301 = kc_301 := rfl
  rw [hc_] at hG
  have hl_37 : ∀ (h : pb_HP) (v0 : Nat) (v2 : Int32) (n_ : Nat) (s : Int32 × Int32) (e : Int32), pb_wl (f_301_37s N h v0 v2) n_ s = some e → G 86 [(3, .int e)] [] h → G 37 [(0, .ref v0), (2, .int v2), (3, .int s.1), (4, .int s.2)] [] h := by
    intro h v0 v2
    refine pb_wl_ind (I := fun (s : Int32 × Int32) => G 37 [(0, .ref v0), (2, .int v2), (3, .int s.1), (4, .int s.2)] [] h) (K := fun (e : Int32) => G 86 [(3, .int e)] [] h) (fun s x hf hk => ?_)
    unfold f_301_37s at hf
    refine hG.1 3 37 kb_301_37 _ _ _ rfl ?_
    obtain ⟨hg8, hf⟩ := pb_gd hf
    refine And.intro hg8 (?_)
    refine And.intro (fun (hc15 : (pb_I h v0 41) ≤ s.2) => ?_) (fun (hc15 : ¬ ((pb_I h v0 41) ≤ s.2)) => ?_)
    · rw [if_pos hc15] at hf
      cases hf
      exact hG.2 86 _ [2] _ _ _ rfl hk
    · rw [if_neg hc15] at hf
      obtain ⟨q9, eq9, hf⟩ := Option.bind_eq_some_iff.mp hf
      obtain ⟨hg10, hf⟩ := pb_gd hf
      refine And.intro hg8 (Exists.intro q9 (And.intro eq9 (And.intro hg10 (?_))))
      obtain ⟨r11, cr11, hf⟩ := Option.bind_eq_some_iff.mp hf
      refine And.intro (Nat.le_of_ble_eq_true rfl) (And.intro (Nat.le_of_ble_eq_true rfl) (And.intro (Nat.le_of_ble_eq_true rfl) (Exists.intro (some (.int r11)) (Exists.intro _ (And.intro (l_248 cr11) (?_))))))
      refine And.intro (fun (hc14 : v2 = 0) => ?_) (fun (hc14 : ¬ (v2 = 0)) => ?_)
      · rw [if_pos hc14] at hf
        refine hG.1 4 73 kb_301_73 _ _ _ rfl ?_
        obtain ⟨r12, cr12, hf⟩ := Option.bind_eq_some_iff.mp hf
        refine And.intro (Nat.le_of_ble_eq_true rfl) (And.intro (Nat.le_of_ble_eq_true rfl) (And.intro (Nat.le_of_ble_eq_true rfl) (Exists.intro (some (.int r12)) (Exists.intro _ (And.intro (l_171 cr12) (?_))))))
        refine hG.1 5 79 kb_301_79 _ _ _ rfl ?_
        cases hf
        exact hG.2 37 _ [0, 1, 2, 3] _ _ _ rfl hk
      · rw [if_neg hc14] at hf
        obtain ⟨r13, cr13, hf⟩ := Option.bind_eq_some_iff.mp hf
        refine And.intro (Nat.le_of_ble_eq_true rfl) (And.intro (Nat.le_of_ble_eq_true rfl) (And.intro (Nat.le_of_ble_eq_true rfl) (Exists.intro (some (.int r13)) (Exists.intro _ (And.intro (l_170 cr13) (?_))))))
        refine hG.1 5 79 kb_301_79 _ _ _ rfl ?_
        cases hf
        exact hG.2 37 _ [0, 1, 2, 3] _ _ _ rfl hk
  unfold f_301 at hf
  refine hG.1 0 0 kb_301_0 _ _ _ rfl ?_
  obtain ⟨hg1, hf⟩ := pb_gd hf
  refine And.intro hg1 (?_)
  obtain ⟨⟨r2, h3⟩, cr2, hf⟩ := Option.bind_eq_some_iff.mp hf
  try dsimp only at hf
  refine And.intro hg1 (And.intro (Nat.le_of_ble_eq_true rfl) (And.intro (Nat.le_of_ble_eq_true rfl) (Exists.intro (some (.int r2)) (Exists.intro _ (And.intro (l_251 cr2) (?_))))))
  refine And.intro (fun (hc18 : r2 = 0) => ?_) (fun (hc18 : ¬ (r2 = 0)) => ?_)
  · rw [if_pos hc18] at hf
    refine hG.1 1 20 kb_301_20 _ _ _ rfl ?_
    cases hf
    exact And.intro (fun z_ => absurd z_ (by decide)) (And.intro rfl rfl)
  · rw [if_neg hc18] at hf
    obtain ⟨hg4, hf⟩ := pb_gd hf
    refine And.intro hg4 (?_)
    refine And.intro (fun (hc17 : ¬ (pb_I h3 v0 41) = 0) => ?_) (fun (hc17 : ¬ (¬ (pb_I h3 v0 41) = 0)) => ?_)
    · rw [if_pos hc17] at hf
      refine hG.1 2 22 kb_301_22 _ _ _ rfl ?_
      obtain ⟨q5, eq5, hf⟩ := Option.bind_eq_some_iff.mp hf
      obtain ⟨hg6, hf⟩ := pb_gd hf
      refine And.intro hg4 (Exists.intro q5 (And.intro eq5 (And.intro hg6 (?_))))
      obtain ⟨r7, cr7, hf⟩ := Option.bind_eq_some_iff.mp hf
      refine And.intro (Nat.le_of_ble_eq_true rfl) (And.intro (Nat.le_of_ble_eq_true rfl) (And.intro (Nat.le_of_ble_eq_true rfl) (Exists.intro (some (.int r7)) (Exists.intro _ (And.intro (l_248 cr7) (?_))))))
      obtain ⟨e16, he_e16, hf⟩ := Option.bind_eq_some_iff.mp hf
      refine hG.2 37 _ [0, 2, 3, 4] _ _ _ rfl ?_
      refine hl_37 _ _ _ _ _ _ he_e16 ?_
      refine hG.1 6 86 kb_301_86 _ _ _ rfl ?_
      cases hf
      exact And.intro (fun z_ => absurd z_ (by decide)) (And.intro rfl rfl)
    · rw [if_neg hc17] at hf
      refine hG.1 1 20 kb_301_20 _ _ _ rfl ?_
      cases hf
      exact And.intro (fun z_ => absurd z_ (by decide)) (And.intro rfl rfl)
/-- PointedBench.till -/
def f_130 (N : Nat) (h : pb_HP) (v0 : Nat) (v1 : Int32) (v2 : Int32) : Option (Int32 × pb_HP) :=
  if pb_is h v0 10 then ((pb_R h v0 0).bind fun q2 => (if pb_is h q2 7 then ((f_105 h q2 v1).bind fun r4 => (match r4 with | none => ((f_106 h q2 v2).bind fun r6 => (match r6 with | none => (some (((-1), h))) | some q7 => (some (((-1), h))))) | some q5 => ((f_106 h q2 v2).bind fun r8 => (match r8 with | none => (some (((-1), h))) | some q9 => ((pb_R h v0 8).bind fun q10 => (if pb_is h q10 1 then ((f_28 h q10 q5).bind fun h13 => (if pb_is h13 v0 10 then ((pb_R h13 v0 8).bind fun q15 => (if pb_is h13 q9 4 then (if pb_is h13 q15 1 then ((f_29 N h13 q15 q9 (pb_I h13 q9 0)).bind fun (r18, h19) => (some ((r18, h19)))) else none) else none)) else none)) else none)))))) else none)) else none
set_option maxRecDepth 4000 in
theorem l_130 {xs : List Int32} {d : Nat} {N : Nat} {h : pb_HP} {v0 : Nat} {v1 : Int32} {v2 : Int32} {r : Int32} {hE : pb_HP} (hf : f_130 N h v0 v1 v2 = some ((r, hE))) : pb_AR xs (d + 7) 130 h [.ref v0, .int v1, .int v2] (some (.int r)) hE := by
  intro G hG
  have hc_ : pb_CODE 130 = kc_130 := rfl
  rw [hc_] at hG
  unfold f_130 at hf
  refine hG.1 0 0 kb_130_0 _ _ _ rfl ?_
  obtain ⟨hg1, hf⟩ := pb_gd hf
  obtain ⟨q2, eq2, hf⟩ := Option.bind_eq_some_iff.mp hf
  obtain ⟨hg3, hf⟩ := pb_gd hf
  refine And.intro hg1 (Exists.intro q2 (And.intro eq2 (?_)))
  obtain ⟨r4, cr4, hf⟩ := Option.bind_eq_some_iff.mp hf
  refine And.intro hg3 (And.intro (Nat.le_of_ble_eq_true rfl) (And.intro (Nat.le_of_ble_eq_true rfl) (Exists.intro (some (pb_rv r4)) (Exists.intro _ (And.intro (l_105 cr4) (?_))))))
  cases r4 with
  | none =>
    try dsimp only at hf
    refine And.intro hg1 (Exists.intro q2 (And.intro eq2 (?_)))
    obtain ⟨r6, cr6, hf⟩ := Option.bind_eq_some_iff.mp hf
    refine And.intro hg3 (And.intro (Nat.le_of_ble_eq_true rfl) (And.intro (Nat.le_of_ble_eq_true rfl) (Exists.intro (some (pb_rv r6)) (Exists.intro _ (And.intro (l_106 cr6) (?_))))))
    cases r6 with
    | none =>
      try dsimp only at hf
      refine hG.1 1 28 kb_130_28 _ _ _ rfl ?_
      cases hf
      exact And.intro (fun z_ => absurd z_ (by decide)) (And.intro rfl rfl)
    | some q7 =>
      try dsimp only at hf
      refine hG.1 1 28 kb_130_28 _ _ _ rfl ?_
      cases hf
      exact And.intro (fun z_ => absurd z_ (by decide)) (And.intro rfl rfl)
  | some q5 =>
    try dsimp only at hf
    refine And.intro hg1 (Exists.intro q2 (And.intro eq2 (?_)))
    obtain ⟨r8, cr8, hf⟩ := Option.bind_eq_some_iff.mp hf
    refine And.intro hg3 (And.intro (Nat.le_of_ble_eq_true rfl) (And.intro (Nat.le_of_ble_eq_true rfl) (Exists.intro (some (pb_rv r8)) (Exists.intro _ (And.intro (l_106 cr8) (?_))))))
    cases r8 with
    | none =>
      try dsimp only at hf
      refine hG.1 1 28 kb_130_28 _ _ _ rfl ?_
      cases hf
      exact And.intro (fun z_ => absurd z_ (by decide)) (And.intro rfl rfl)
    | some q9 =>
      try dsimp only at hf
      refine hG.1 2 30 kb_130_30 _ _ _ rfl ?_
      obtain ⟨q10, eq10, hf⟩ := Option.bind_eq_some_iff.mp hf
      obtain ⟨hg11, hf⟩ := pb_gd hf
      refine And.intro hg1 (Exists.intro q10 (And.intro eq10 (?_)))
      obtain ⟨h13, cr12, hf⟩ := Option.bind_eq_some_iff.mp hf
      refine And.intro hg11 (And.intro (Nat.le_of_ble_eq_true rfl) (And.intro (Nat.le_of_ble_eq_true rfl) (Exists.intro none (Exists.intro _ (And.intro (l_28 cr12) (?_))))))
      obtain ⟨hg14, hf⟩ := pb_gd hf
      obtain ⟨q15, eq15, hf⟩ := Option.bind_eq_some_iff.mp hf
      obtain ⟨hg16, hf⟩ := pb_gd hf
      obtain ⟨hg17, hf⟩ := pb_gd hf
      refine And.intro hg14 (Exists.intro q15 (And.intro eq15 (And.intro hg16 (?_))))
      obtain ⟨⟨r18, h19⟩, cr18, hf⟩ := Option.bind_eq_some_iff.mp hf
      try dsimp only at hf
      refine And.intro hg17 (And.intro (Nat.le_of_ble_eq_true rfl) (And.intro (Nat.le_of_ble_eq_true rfl) (Exists.intro (some (.int r18)) (Exists.intro _ (And.intro (l_29 cr18) (?_))))))
      cases hf
      exact And.intro (fun z_ => absurd z_ (by decide)) (And.intro rfl rfl)
/-- PointedBench.state -/
def f_131 (N : Nat) (h : pb_HP) (v0 : Nat) (v1 : Int32) (v2 : Int32) (v3 : Int32) (v4 : Int32) : Option (Int32 × pb_HP) :=
  if pb_is h v0 10 then ((pb_R h v0 0).bind fun q2 => (if pb_is h q2 7 then ((f_105 h q2 v1).bind fun r4 => (match r4 with | none => ((f_106 h q2 v2).bind fun r6 => (match r6 with | none => (some (((-1), h))) | some q7 => (some (((-1), h))))) | some q5 => ((f_106 h q2 v2).bind fun r8 => (match r8 with | none => (some (((-1), h))) | some q9 => (if v3 < 0 then (some (((-1), h))) else (if pb_is h q9 4 then (if v3 ≤ (pb_I h q9 0) then ((pb_R h v0 8).bind fun q11 => (if pb_is h q11 1 then ((f_28 h q11 q5).bind fun h14 => (if pb_is h14 v0 10 then ((pb_R h14 v0 8).bind fun q16 => (if pb_is h14 q16 1 then ((f_29 N h14 q16 q9 v3).bind fun (r18, h19) => (if v3 ≤ r18 then (if pb_is h19 v0 10 then ((pb_R h19 v0 8).bind fun q21 => (if pb_is h19 q21 1 then ((f_37 N h19 q21 v4).bind fun (r23, h24) => (some ((r23, h24)))) else none)) else none) else (some (((-1), h19))))) else none)) else none)) else none)) else (some (((-1), h)))) else none)))))) else none)) else none
set_option maxRecDepth 4000 in
theorem l_131 {xs : List Int32} {d : Nat} {N : Nat} {h : pb_HP} {v0 : Nat} {v1 : Int32} {v2 : Int32} {v3 : Int32} {v4 : Int32} {r : Int32} {hE : pb_HP} (hf : f_131 N h v0 v1 v2 v3 v4 = some ((r, hE))) : pb_AR xs (d + 7) 131 h [.ref v0, .int v1, .int v2, .int v3, .int v4] (some (.int r)) hE := by
  intro G hG
  have hc_ : pb_CODE 131 = kc_131 := rfl
  rw [hc_] at hG
  unfold f_131 at hf
  refine hG.1 0 0 kb_131_0 _ _ _ rfl ?_
  obtain ⟨hg1, hf⟩ := pb_gd hf
  obtain ⟨q2, eq2, hf⟩ := Option.bind_eq_some_iff.mp hf
  obtain ⟨hg3, hf⟩ := pb_gd hf
  refine And.intro hg1 (Exists.intro q2 (And.intro eq2 (?_)))
  obtain ⟨r4, cr4, hf⟩ := Option.bind_eq_some_iff.mp hf
  refine And.intro hg3 (And.intro (Nat.le_of_ble_eq_true rfl) (And.intro (Nat.le_of_ble_eq_true rfl) (Exists.intro (some (pb_rv r4)) (Exists.intro _ (And.intro (l_105 cr4) (?_))))))
  cases r4 with
  | none =>
    try dsimp only at hf
    refine And.intro hg1 (Exists.intro q2 (And.intro eq2 (?_)))
    obtain ⟨r6, cr6, hf⟩ := Option.bind_eq_some_iff.mp hf
    refine And.intro hg3 (And.intro (Nat.le_of_ble_eq_true rfl) (And.intro (Nat.le_of_ble_eq_true rfl) (Exists.intro (some (pb_rv r6)) (Exists.intro _ (And.intro (l_106 cr6) (?_))))))
    cases r6 with
    | none =>
      try dsimp only at hf
      refine hG.1 1 43 kb_131_43 _ _ _ rfl ?_
      cases hf
      exact And.intro (fun z_ => absurd z_ (by decide)) (And.intro rfl rfl)
    | some q7 =>
      try dsimp only at hf
      refine hG.1 1 43 kb_131_43 _ _ _ rfl ?_
      cases hf
      exact And.intro (fun z_ => absurd z_ (by decide)) (And.intro rfl rfl)
  | some q5 =>
    try dsimp only at hf
    refine And.intro hg1 (Exists.intro q2 (And.intro eq2 (?_)))
    obtain ⟨r8, cr8, hf⟩ := Option.bind_eq_some_iff.mp hf
    refine And.intro hg3 (And.intro (Nat.le_of_ble_eq_true rfl) (And.intro (Nat.le_of_ble_eq_true rfl) (Exists.intro (some (pb_rv r8)) (Exists.intro _ (And.intro (l_106 cr8) (?_))))))
    cases r8 with
    | none =>
      try dsimp only at hf
      refine hG.1 1 43 kb_131_43 _ _ _ rfl ?_
      cases hf
      exact And.intro (fun z_ => absurd z_ (by decide)) (And.intro rfl rfl)
    | some q9 =>
      try dsimp only at hf
      refine And.intro (fun (hc27 : v3 < 0) => ?_) (fun (hc27 : ¬ (v3 < 0)) => ?_)
      · rw [if_pos hc27] at hf
        refine hG.1 1 43 kb_131_43 _ _ _ rfl ?_
        cases hf
        exact And.intro (fun z_ => absurd z_ (by decide)) (And.intro rfl rfl)
      · rw [if_neg hc27] at hf
        obtain ⟨hg10, hf⟩ := pb_gd hf
        refine And.intro hg10 (?_)
        refine And.intro (fun (hc26 : v3 ≤ (pb_I h q9 0)) => ?_) (fun (hc26 : ¬ (v3 ≤ (pb_I h q9 0))) => ?_)
        · rw [if_pos hc26] at hf
          refine hG.1 2 45 kb_131_45 _ _ _ rfl ?_
          obtain ⟨q11, eq11, hf⟩ := Option.bind_eq_some_iff.mp hf
          obtain ⟨hg12, hf⟩ := pb_gd hf
          refine And.intro hg1 (Exists.intro q11 (And.intro eq11 (?_)))
          obtain ⟨h14, cr13, hf⟩ := Option.bind_eq_some_iff.mp hf
          refine And.intro hg12 (And.intro (Nat.le_of_ble_eq_true rfl) (And.intro (Nat.le_of_ble_eq_true rfl) (Exists.intro none (Exists.intro _ (And.intro (l_28 cr13) (?_))))))
          obtain ⟨hg15, hf⟩ := pb_gd hf
          obtain ⟨q16, eq16, hf⟩ := Option.bind_eq_some_iff.mp hf
          obtain ⟨hg17, hf⟩ := pb_gd hf
          refine And.intro hg15 (Exists.intro q16 (And.intro eq16 (?_)))
          obtain ⟨⟨r18, h19⟩, cr18, hf⟩ := Option.bind_eq_some_iff.mp hf
          try dsimp only at hf
          refine And.intro hg17 (And.intro (Nat.le_of_ble_eq_true rfl) (And.intro (Nat.le_of_ble_eq_true rfl) (Exists.intro (some (.int r18)) (Exists.intro _ (And.intro (l_29 cr18) (?_))))))
          refine And.intro (fun (hc25 : v3 ≤ r18) => ?_) (fun (hc25 : ¬ (v3 ≤ r18)) => ?_)
          · rw [if_pos hc25] at hf
            refine hG.1 3 72 kb_131_72 _ _ _ rfl ?_
            obtain ⟨hg20, hf⟩ := pb_gd hf
            obtain ⟨q21, eq21, hf⟩ := Option.bind_eq_some_iff.mp hf
            obtain ⟨hg22, hf⟩ := pb_gd hf
            refine And.intro hg20 (Exists.intro q21 (And.intro eq21 (?_)))
            obtain ⟨⟨r23, h24⟩, cr23, hf⟩ := Option.bind_eq_some_iff.mp hf
            try dsimp only at hf
            refine And.intro hg22 (And.intro (Nat.le_of_ble_eq_true rfl) (And.intro (Nat.le_of_ble_eq_true rfl) (Exists.intro (some (.int r23)) (Exists.intro _ (And.intro (l_37 cr23) (?_))))))
            refine hG.1 4 81 kb_131_81 _ _ _ rfl ?_
            cases hf
            exact And.intro (fun z_ => absurd z_ (by decide)) (And.intro rfl rfl)
          · rw [if_neg hc25] at hf
            refine hG.1 4 81 kb_131_81 _ _ _ rfl ?_
            cases hf
            exact And.intro (fun z_ => absurd z_ (by decide)) (And.intro rfl rfl)
        · rw [if_neg hc26] at hf
          refine hG.1 1 43 kb_131_43 _ _ _ rfl ?_
          cases hf
          exact And.intro (fun z_ => absurd z_ (by decide)) (And.intro rfl rfl)
/-- PointedBench.drawn -/
def f_141 (N : Nat) (h : pb_HP) (v0 : Nat) (v1 : Int32) (v2 : Int32) (v3 : Int32) (v4 : Int32) : Option (Int32 × pb_HP) :=
  if pb_is h v0 10 then ((pb_R h v0 0).bind fun q2 => (if pb_is h q2 7 then ((f_105 h q2 v1).bind fun r4 => (match r4 with | none => (some (((-1), h))) | some q5 => (if v3 < 0 then (some (((-1), h))) else (if v3 ≤ 60 then ((pb_R h v0 8).bind fun q6 => (if pb_is h q6 1 then ((f_28 h q6 q5).bind fun h9 => (if pb_is h9 v0 10 then ((pb_R h9 v0 8).bind fun q11 => (if pb_is h9 q11 1 then ((f_39 N h9 q11 v2 v3).bind fun h14 => (if pb_is h14 v0 10 then ((pb_R h14 v0 8).bind fun q16 => (if pb_is h14 q16 1 then ((f_37 N h14 q16 v4).bind fun (r18, h19) => (some ((r18, h19)))) else none)) else none)) else none)) else none)) else none)) else (some (((-1), h))))))) else none)) else none
set_option maxRecDepth 4000 in
theorem l_141 {xs : List Int32} {d : Nat} {N : Nat} {h : pb_HP} {v0 : Nat} {v1 : Int32} {v2 : Int32} {v3 : Int32} {v4 : Int32} {r : Int32} {hE : pb_HP} (hf : f_141 N h v0 v1 v2 v3 v4 = some ((r, hE))) : pb_AR xs (d + 7) 141 h [.ref v0, .int v1, .int v2, .int v3, .int v4] (some (.int r)) hE := by
  intro G hG
  have hc_ : pb_CODE 141 = kc_141 := rfl
  rw [hc_] at hG
  unfold f_141 at hf
  refine hG.1 0 0 kb_141_0 _ _ _ rfl ?_
  obtain ⟨hg1, hf⟩ := pb_gd hf
  obtain ⟨q2, eq2, hf⟩ := Option.bind_eq_some_iff.mp hf
  obtain ⟨hg3, hf⟩ := pb_gd hf
  refine And.intro hg1 (Exists.intro q2 (And.intro eq2 (?_)))
  obtain ⟨r4, cr4, hf⟩ := Option.bind_eq_some_iff.mp hf
  refine And.intro hg3 (And.intro (Nat.le_of_ble_eq_true rfl) (And.intro (Nat.le_of_ble_eq_true rfl) (Exists.intro (some (pb_rv r4)) (Exists.intro _ (And.intro (l_105 cr4) (?_))))))
  cases r4 with
  | none =>
    try dsimp only at hf
    refine hG.1 1 25 kb_141_25 _ _ _ rfl ?_
    cases hf
    exact And.intro (fun z_ => absurd z_ (by decide)) (And.intro rfl rfl)
  | some q5 =>
    try dsimp only at hf
    refine And.intro (fun (hc21 : v3 < 0) => ?_) (fun (hc21 : ¬ (v3 < 0)) => ?_)
    · rw [if_pos hc21] at hf
      refine hG.1 1 25 kb_141_25 _ _ _ rfl ?_
      cases hf
      exact And.intro (fun z_ => absurd z_ (by decide)) (And.intro rfl rfl)
    · rw [if_neg hc21] at hf
      refine And.intro (fun (hc20 : v3 ≤ 60) => ?_) (fun (hc20 : ¬ (v3 ≤ 60)) => ?_)
      · rw [if_pos hc20] at hf
        refine hG.1 2 27 kb_141_27 _ _ _ rfl ?_
        obtain ⟨q6, eq6, hf⟩ := Option.bind_eq_some_iff.mp hf
        obtain ⟨hg7, hf⟩ := pb_gd hf
        refine And.intro hg1 (Exists.intro q6 (And.intro eq6 (?_)))
        obtain ⟨h9, cr8, hf⟩ := Option.bind_eq_some_iff.mp hf
        refine And.intro hg7 (And.intro (Nat.le_of_ble_eq_true rfl) (And.intro (Nat.le_of_ble_eq_true rfl) (Exists.intro none (Exists.intro _ (And.intro (l_28 cr8) (?_))))))
        obtain ⟨hg10, hf⟩ := pb_gd hf
        obtain ⟨q11, eq11, hf⟩ := Option.bind_eq_some_iff.mp hf
        obtain ⟨hg12, hf⟩ := pb_gd hf
        refine And.intro hg10 (Exists.intro q11 (And.intro eq11 (?_)))
        obtain ⟨h14, cr13, hf⟩ := Option.bind_eq_some_iff.mp hf
        refine And.intro hg12 (And.intro (Nat.le_of_ble_eq_true rfl) (And.intro (Nat.le_of_ble_eq_true rfl) (Exists.intro none (Exists.intro _ (And.intro (l_39 cr13) (?_))))))
        obtain ⟨hg15, hf⟩ := pb_gd hf
        obtain ⟨q16, eq16, hf⟩ := Option.bind_eq_some_iff.mp hf
        obtain ⟨hg17, hf⟩ := pb_gd hf
        refine And.intro hg15 (Exists.intro q16 (And.intro eq16 (?_)))
        obtain ⟨⟨r18, h19⟩, cr18, hf⟩ := Option.bind_eq_some_iff.mp hf
        try dsimp only at hf
        refine And.intro hg17 (And.intro (Nat.le_of_ble_eq_true rfl) (And.intro (Nat.le_of_ble_eq_true rfl) (Exists.intro (some (.int r18)) (Exists.intro _ (And.intro (l_37 cr18) (?_))))))
        cases hf
        exact And.intro (fun z_ => absurd z_ (by decide)) (And.intro rfl rfl)
      · rw [if_neg hc20] at hf
        refine hG.1 1 25 kb_141_25 _ _ _ rfl ?_
        cases hf
        exact And.intro (fun z_ => absurd z_ (by decide)) (And.intro rfl rfl)
/-- PointedBench.after -/
def f_158 (N : Nat) (h : pb_HP) (v0 : Nat) (v1 : Int32) (v2 : Int32) (v3 : Int32) : Option (Int32 × pb_HP) :=
  if pb_is h v0 10 then ((pb_R h v0 0).bind fun q2 => (if pb_is h q2 7 then ((f_105 h q2 v1).bind fun r4 => (match r4 with | none => ((f_106 h q2 v2).bind fun r6 => (match r6 with | none => (some (((-2), h))) | some q7 => (some (((-2), h))))) | some q5 => ((f_106 h q2 v2).bind fun r8 => (match r8 with | none => (some (((-2), h))) | some q9 => ((pb_R h v0 8).bind fun q10 => (if pb_is h q10 1 then ((f_28 h q10 q5).bind fun h13 => (if v3 = 0 then (if pb_is h13 v0 10 then ((pb_R h13 v0 8).bind fun q16 => (if pb_is h13 q16 1 then ((f_42 N h13 q16 q9).bind fun (r18, h19) => (some ((r18, h19)))) else none)) else none) else if v3 = 1 then (if pb_is h13 v0 10 then ((pb_R h13 v0 8).bind fun q22 => (if pb_is h13 q22 1 then ((f_43 N h13 q22 q9).bind fun (r24, h25) => (some ((r24, h25)))) else none)) else none) else if v3 = 2 then (if pb_is h13 v0 10 then ((pb_R h13 v0 8).bind fun q28 => (if pb_is h13 q28 1 then ((f_44 N h13 q28 q9).bind fun (r30, h31) => (some ((r30, h31)))) else none)) else none) else if v3 = 3 then (if pb_is h13 v0 10 then ((pb_R h13 v0 8).bind fun q34 => (if pb_is h13 q34 1 then ((f_45 N h13 q34 q9).bind fun (r36, h37) => (some ((r36, h37)))) else none)) else none) else if v3 = 4 then (if pb_is h13 v0 10 then ((pb_R h13 v0 8).bind fun q40 => (if pb_is h13 q40 1 then ((f_47 N h13 q40 q9 0).bind fun (r42, h43) => (some ((r42, h43)))) else none)) else none) else if v3 = 5 then (if pb_is h13 v0 10 then ((pb_R h13 v0 8).bind fun q46 => (if pb_is h13 q46 1 then ((f_47 N h13 q46 q9 2).bind fun (r48, h49) => (some ((r48, h49)))) else none)) else none) else (some (((-2), h13))))) else none)))))) else none)) else none
set_option maxRecDepth 4000 in
theorem l_158 {xs : List Int32} {d : Nat} {N : Nat} {h : pb_HP} {v0 : Nat} {v1 : Int32} {v2 : Int32} {v3 : Int32} {r : Int32} {hE : pb_HP} (hf : f_158 N h v0 v1 v2 v3 = some ((r, hE))) : pb_AR xs (d + 7) 158 h [.ref v0, .int v1, .int v2, .int v3] (some (.int r)) hE := by
  intro G hG
  have hc_ : pb_CODE 158 = kc_158 := rfl
  rw [hc_] at hG
  unfold f_158 at hf
  refine hG.1 0 0 kb_158_0 _ _ _ rfl ?_
  obtain ⟨hg1, hf⟩ := pb_gd hf
  obtain ⟨q2, eq2, hf⟩ := Option.bind_eq_some_iff.mp hf
  obtain ⟨hg3, hf⟩ := pb_gd hf
  refine And.intro hg1 (Exists.intro q2 (And.intro eq2 (?_)))
  obtain ⟨r4, cr4, hf⟩ := Option.bind_eq_some_iff.mp hf
  refine And.intro hg3 (And.intro (Nat.le_of_ble_eq_true rfl) (And.intro (Nat.le_of_ble_eq_true rfl) (Exists.intro (some (pb_rv r4)) (Exists.intro _ (And.intro (l_105 cr4) (?_))))))
  cases r4 with
  | none =>
    try dsimp only at hf
    refine And.intro hg1 (Exists.intro q2 (And.intro eq2 (?_)))
    obtain ⟨r6, cr6, hf⟩ := Option.bind_eq_some_iff.mp hf
    refine And.intro hg3 (And.intro (Nat.le_of_ble_eq_true rfl) (And.intro (Nat.le_of_ble_eq_true rfl) (Exists.intro (some (pb_rv r6)) (Exists.intro _ (And.intro (l_106 cr6) (?_))))))
    cases r6 with
    | none =>
      try dsimp only at hf
      refine hG.1 1 30 kb_158_30 _ _ _ rfl ?_
      cases hf
      exact And.intro (fun z_ => absurd z_ (by decide)) (And.intro rfl rfl)
    | some q7 =>
      try dsimp only at hf
      refine hG.1 1 30 kb_158_30 _ _ _ rfl ?_
      cases hf
      exact And.intro (fun z_ => absurd z_ (by decide)) (And.intro rfl rfl)
  | some q5 =>
    try dsimp only at hf
    refine And.intro hg1 (Exists.intro q2 (And.intro eq2 (?_)))
    obtain ⟨r8, cr8, hf⟩ := Option.bind_eq_some_iff.mp hf
    refine And.intro hg3 (And.intro (Nat.le_of_ble_eq_true rfl) (And.intro (Nat.le_of_ble_eq_true rfl) (Exists.intro (some (pb_rv r8)) (Exists.intro _ (And.intro (l_106 cr8) (?_))))))
    cases r8 with
    | none =>
      try dsimp only at hf
      refine hG.1 1 30 kb_158_30 _ _ _ rfl ?_
      cases hf
      exact And.intro (fun z_ => absurd z_ (by decide)) (And.intro rfl rfl)
    | some q9 =>
      try dsimp only at hf
      refine hG.1 2 33 kb_158_33 _ _ _ rfl ?_
      obtain ⟨q10, eq10, hf⟩ := Option.bind_eq_some_iff.mp hf
      obtain ⟨hg11, hf⟩ := pb_gd hf
      refine And.intro hg1 (Exists.intro q10 (And.intro eq10 (?_)))
      obtain ⟨h13, cr12, hf⟩ := Option.bind_eq_some_iff.mp hf
      refine And.intro hg11 (And.intro (Nat.le_of_ble_eq_true rfl) (And.intro (Nat.le_of_ble_eq_true rfl) (Exists.intro none (Exists.intro _ (And.intro (l_28 cr12) (?_))))))
      by_cases hc14 : v3 = 0
      · rw [if_pos hc14] at hf
        refine pb_gs (G := G) (tgt := 80) (show pb_swt 43 99 0 5 #[37, 47, 57, 67, 77, 88] v3 = 80 by rw [hc14]; decide) ?_
        refine hG.1 3 80 kb_158_80 _ _ _ rfl ?_
        obtain ⟨hg15, hf⟩ := pb_gd hf
        obtain ⟨q16, eq16, hf⟩ := Option.bind_eq_some_iff.mp hf
        obtain ⟨hg17, hf⟩ := pb_gd hf
        refine And.intro hg15 (Exists.intro q16 (And.intro eq16 (?_)))
        obtain ⟨⟨r18, h19⟩, cr18, hf⟩ := Option.bind_eq_some_iff.mp hf
        try dsimp only at hf
        refine And.intro hg17 (And.intro (Nat.le_of_ble_eq_true rfl) (And.intro (Nat.le_of_ble_eq_true rfl) (Exists.intro (some (.int r18)) (Exists.intro _ (And.intro (l_42 cr18) (?_))))))
        cases hf
        exact And.intro (fun z_ => absurd z_ (by decide)) (And.intro rfl rfl)
      rw [if_neg hc14] at hf
      by_cases hc20 : v3 = 1
      · rw [if_pos hc20] at hf
        refine pb_gs (G := G) (tgt := 90) (show pb_swt 43 99 0 5 #[37, 47, 57, 67, 77, 88] v3 = 90 by rw [hc20]; decide) ?_
        refine hG.1 4 90 kb_158_90 _ _ _ rfl ?_
        obtain ⟨hg21, hf⟩ := pb_gd hf
        obtain ⟨q22, eq22, hf⟩ := Option.bind_eq_some_iff.mp hf
        obtain ⟨hg23, hf⟩ := pb_gd hf
        refine And.intro hg21 (Exists.intro q22 (And.intro eq22 (?_)))
        obtain ⟨⟨r24, h25⟩, cr24, hf⟩ := Option.bind_eq_some_iff.mp hf
        try dsimp only at hf
        refine And.intro hg23 (And.intro (Nat.le_of_ble_eq_true rfl) (And.intro (Nat.le_of_ble_eq_true rfl) (Exists.intro (some (.int r24)) (Exists.intro _ (And.intro (l_43 cr24) (?_))))))
        cases hf
        exact And.intro (fun z_ => absurd z_ (by decide)) (And.intro rfl rfl)
      rw [if_neg hc20] at hf
      by_cases hc26 : v3 = 2
      · rw [if_pos hc26] at hf
        refine pb_gs (G := G) (tgt := 100) (show pb_swt 43 99 0 5 #[37, 47, 57, 67, 77, 88] v3 = 100 by rw [hc26]; decide) ?_
        refine hG.1 5 100 kb_158_100 _ _ _ rfl ?_
        obtain ⟨hg27, hf⟩ := pb_gd hf
        obtain ⟨q28, eq28, hf⟩ := Option.bind_eq_some_iff.mp hf
        obtain ⟨hg29, hf⟩ := pb_gd hf
        refine And.intro hg27 (Exists.intro q28 (And.intro eq28 (?_)))
        obtain ⟨⟨r30, h31⟩, cr30, hf⟩ := Option.bind_eq_some_iff.mp hf
        try dsimp only at hf
        refine And.intro hg29 (And.intro (Nat.le_of_ble_eq_true rfl) (And.intro (Nat.le_of_ble_eq_true rfl) (Exists.intro (some (.int r30)) (Exists.intro _ (And.intro (l_44 cr30) (?_))))))
        cases hf
        exact And.intro (fun z_ => absurd z_ (by decide)) (And.intro rfl rfl)
      rw [if_neg hc26] at hf
      by_cases hc32 : v3 = 3
      · rw [if_pos hc32] at hf
        refine pb_gs (G := G) (tgt := 110) (show pb_swt 43 99 0 5 #[37, 47, 57, 67, 77, 88] v3 = 110 by rw [hc32]; decide) ?_
        refine hG.1 6 110 kb_158_110 _ _ _ rfl ?_
        obtain ⟨hg33, hf⟩ := pb_gd hf
        obtain ⟨q34, eq34, hf⟩ := Option.bind_eq_some_iff.mp hf
        obtain ⟨hg35, hf⟩ := pb_gd hf
        refine And.intro hg33 (Exists.intro q34 (And.intro eq34 (?_)))
        obtain ⟨⟨r36, h37⟩, cr36, hf⟩ := Option.bind_eq_some_iff.mp hf
        try dsimp only at hf
        refine And.intro hg35 (And.intro (Nat.le_of_ble_eq_true rfl) (And.intro (Nat.le_of_ble_eq_true rfl) (Exists.intro (some (.int r36)) (Exists.intro _ (And.intro (l_45 cr36) (?_))))))
        cases hf
        exact And.intro (fun z_ => absurd z_ (by decide)) (And.intro rfl rfl)
      rw [if_neg hc32] at hf
      by_cases hc38 : v3 = 4
      · rw [if_pos hc38] at hf
        refine pb_gs (G := G) (tgt := 120) (show pb_swt 43 99 0 5 #[37, 47, 57, 67, 77, 88] v3 = 120 by rw [hc38]; decide) ?_
        refine hG.1 7 120 kb_158_120 _ _ _ rfl ?_
        obtain ⟨hg39, hf⟩ := pb_gd hf
        obtain ⟨q40, eq40, hf⟩ := Option.bind_eq_some_iff.mp hf
        obtain ⟨hg41, hf⟩ := pb_gd hf
        refine And.intro hg39 (Exists.intro q40 (And.intro eq40 (?_)))
        obtain ⟨⟨r42, h43⟩, cr42, hf⟩ := Option.bind_eq_some_iff.mp hf
        try dsimp only at hf
        refine And.intro hg41 (And.intro (Nat.le_of_ble_eq_true rfl) (And.intro (Nat.le_of_ble_eq_true rfl) (Exists.intro (some (.int r42)) (Exists.intro _ (And.intro (l_47 cr42) (?_))))))
        cases hf
        exact And.intro (fun z_ => absurd z_ (by decide)) (And.intro rfl rfl)
      rw [if_neg hc38] at hf
      by_cases hc44 : v3 = 5
      · rw [if_pos hc44] at hf
        refine pb_gs (G := G) (tgt := 131) (show pb_swt 43 99 0 5 #[37, 47, 57, 67, 77, 88] v3 = 131 by rw [hc44]; decide) ?_
        refine hG.1 8 131 kb_158_131 _ _ _ rfl ?_
        obtain ⟨hg45, hf⟩ := pb_gd hf
        obtain ⟨q46, eq46, hf⟩ := Option.bind_eq_some_iff.mp hf
        obtain ⟨hg47, hf⟩ := pb_gd hf
        refine And.intro hg45 (Exists.intro q46 (And.intro eq46 (?_)))
        obtain ⟨⟨r48, h49⟩, cr48, hf⟩ := Option.bind_eq_some_iff.mp hf
        try dsimp only at hf
        refine And.intro hg47 (And.intro (Nat.le_of_ble_eq_true rfl) (And.intro (Nat.le_of_ble_eq_true rfl) (Exists.intro (some (.int r48)) (Exists.intro _ (And.intro (l_47 cr48) (?_))))))
        cases hf
        exact And.intro (fun z_ => absurd z_ (by decide)) (And.intro rfl rfl)
      rw [if_neg hc44] at hf
      refine pb_gs (G := G) (tgt := 142) (show pb_swt 43 99 0 5 #[37, 47, 57, 67, 77, 88] v3 = 142 from pb_swd (by decide) (by decide) (fun k_ hk_ => by
        have hk_ : k_ < 6 := hk_
        match k_, hk_ with
        | 0, _ => exact hc14
        | 1, _ => exact hc20
        | 2, _ => exact hc26
        | 3, _ => exact hc32
        | 4, _ => exact hc38
        | 5, _ => exact hc44
        | k_ + 6, hk_ => omega)) ?_
      refine hG.1 9 142 kb_158_142 _ _ _ rfl ?_
      cases hf
      exact And.intro (fun z_ => absurd z_ (by decide)) (And.intro rfl rfl)
def f_193_2s (N : Nat) (v0 : Nat) (v1 : Int32) (s : Int32 × pb_HP) : Option ((Int32 × pb_HP) ⊕ (pb_HP)) :=
  if 161 ≤ s.1 then (some (.inr s.2)) else (if pb_is s.2 v0 11 then ((pb_R s.2 v0 18).bind fun q2 => (if pb_ar s.2 q2 12 s.1 then (some (.inl ((s.1 + 1, pb_pI s.2 q2 s.1.toNatClampNeg 0)))) else none)) else none)
def f_193_151 (N : Nat) (h : pb_HP) (v0 : Nat) (s0 : Int32) (s1 : Int32) (s2 : Nat) : Option (Int32 × pb_HP) :=
  if pb_ar h s2 12 s1 then (if pb_is h v0 11 then ((pb_R h v0 3).bind fun q19 => (if pb_ar h q19 12 0 then (if ¬ (pb_I (pb_pI h s2 s1.toNatClampNeg s0) q19 (0 : Int32).toNatClampNeg) = 0 then (some ((0, pb_pI h s2 s1.toNatClampNeg s0))) else (some ((1, pb_pI h s2 s1.toNatClampNeg s0)))) else none)) else none) else none
def f_193_119 (N : Nat) (h : pb_HP) (v0 : Nat) (v2 : Int32) (s0 : Int32) (s1 : Int32) (s2 : Nat) : Option (Int32 × pb_HP) :=
  if pb_ar h s2 12 s1 then (if pb_is h v0 11 then ((pb_R h v0 4).bind fun q16 => (if ¬ v2 = 0 then (if (pb_I (pb_pI h s2 s1.toNatClampNeg s0) v0 16) ≤ 0 then (f_193_151 N (pb_pI h s2 s1.toNatClampNeg s0) v0 ((-1)) 0 q16) else (f_193_151 N (pb_pI h s2 s1.toNatClampNeg s0) v0 (pb_I (pb_pI h s2 s1.toNatClampNeg s0) v0 17) 0 q16)) else (f_193_151 N (pb_pI h s2 s1.toNatClampNeg s0) v0 (pb_I (pb_pI h s2 s1.toNatClampNeg s0) v0 15) 0 q16))) else none) else none
def f_193_102 (N : Nat) (h : pb_HP) (v0 : Nat) (v2 : Int32) : Option (Int32 × pb_HP) :=
  if pb_is h v0 11 then ((pb_R h v0 3).bind fun q13 => (if v2 = 0 then (f_193_119 N h v0 v2 1 0 q13) else (f_193_119 N h v0 v2 (pb_I h v0 16) 0 q13))) else none
def f_193_93 (N : Nat) (h : pb_HP) (v0 : Nat) (v2 : Int32) : Option (Int32 × pb_HP) :=
  if pb_is h v0 11 then ((f_182 h v0 4 (pb_I h v0 11)).bind fun h30 => (f_193_102 N h30 v0 v2)) else none
/-- PointedBenchModel.readText -/
def f_193 (N : Nat) (h : pb_HP) (v0 : Nat) (v1 : Int32) : Option (Int32 × pb_HP) :=
  (pb_wl (f_193_2s N v0 v1) N ((0, h))).bind fun e5 => (if pb_is e5 v0 11 then ((f_180 N (pb_pI (pb_pI (pb_pI (pb_pI e5 v0 20 ((-1))) v0 21 ((-1))) v0 9 0) v0 16 0) v0).bind fun h8 => (if pb_is h8 v0 11 then ((f_192 N h8 v0 v1).bind fun (r10, h11) => (if r10 = 0 then (f_193_102 N h11 v0 r10) else (if ¬ v1 = 0 then (f_193_102 N h11 v0 r10) else (if pb_is h11 v0 11 then (if ¬ (pb_I h11 v0 16) = 0 then (f_193_102 N h11 v0 r10) else ((pb_R h11 v0 18).bind fun q26 => (if pb_ar h11 q26 12 0 then (if (pb_I h11 q26 (0 : Int32).toNatClampNeg) ≤ (pb_I h11 v0 20) then (f_193_93 N h11 v0 r10) else (if pb_ar h11 q26 12 1 then (if (pb_I h11 v0 21) < (pb_I h11 q26 (1 : Int32).toNatClampNeg) then (f_193_102 N h11 v0 r10) else (f_193_93 N h11 v0 r10)) else none)) else none))) else none)))) else none)) else none)
set_option maxRecDepth 4000 in
theorem l_193 {xs : List Int32} {d : Nat} {N : Nat} {h : pb_HP} {v0 : Nat} {v1 : Int32} {r : Int32} {hE : pb_HP} (hf : f_193 N h v0 v1 = some ((r, hE))) : pb_AR xs (d + 7) 193 h [.ref v0, .int v1] (some (.int r)) hE := by
  intro G hG
  have hc_ : pb_CODE 193 = kc_193 := rfl
  rw [hc_] at hG
  have hl_2 : ∀ (v0 : Nat) (v1 : Int32) (n_ : Nat) (s : Int32 × pb_HP) (e : pb_HP), pb_wl (f_193_2s N v0 v1) n_ s = some e → G 22 [(0, .ref v0), (1, .int v1)] [] e → G 2 [(0, .ref v0), (1, .int v1), (2, .int s.1)] [] s.2 := by
    intro v0 v1
    refine pb_wl_ind (I := fun (s : Int32 × pb_HP) => G 2 [(0, .ref v0), (1, .int v1), (2, .int s.1)] [] s.2) (K := fun (e : pb_HP) => G 22 [(0, .ref v0), (1, .int v1)] [] e) (fun s x hf hk => ?_)
    unfold f_193_2s at hf
    refine hG.1 1 2 kb_193_2 _ _ _ rfl ?_
    refine And.intro (fun (hc4 : 161 ≤ s.1) => ?_) (fun (hc4 : ¬ (161 ≤ s.1)) => ?_)
    · rw [if_pos hc4] at hf
      cases hf
      exact hG.2 22 _ [0, 1] _ _ _ rfl hk
    · rw [if_neg hc4] at hf
      obtain ⟨hg1, hf⟩ := pb_gd hf
      obtain ⟨q2, eq2, hf⟩ := Option.bind_eq_some_iff.mp hf
      obtain ⟨hg3, hf⟩ := pb_gd hf
      refine And.intro hg1 (Exists.intro q2 (And.intro eq2 (And.intro hg3 (?_))))
      cases hf
      exact hk
  have hj_151 : ∀ (h : pb_HP) (v0 : Nat) (s0 : Int32) (s1 : Int32) (s2 : Nat), f_193_151 N h v0 s0 s1 s2 = some ((r, hE)) → G 151 [(0, .ref v0)] [.int s0, .int s1, .ref s2] h := by
    intro h v0 s0 s1 s2 hf
    unfold f_193_151 at hf
    refine hG.1 9 151 kb_193_151 _ _ _ rfl ?_
    obtain ⟨hg17, hf⟩ := pb_gd hf
    obtain ⟨hg18, hf⟩ := pb_gd hf
    obtain ⟨q19, eq19, hf⟩ := Option.bind_eq_some_iff.mp hf
    obtain ⟨hg20, hf⟩ := pb_gd hf
    refine And.intro hg17 (And.intro hg18 (Exists.intro q19 (And.intro eq19 (And.intro hg20 (?_)))))
    refine And.intro (fun (hc21 : ¬ (pb_I (pb_pI h s2 s1.toNatClampNeg s0) q19 (0 : Int32).toNatClampNeg) = 0) => ?_) (fun (hc21 : ¬ (¬ (pb_I (pb_pI h s2 s1.toNatClampNeg s0) q19 (0 : Int32).toNatClampNeg) = 0)) => ?_)
    · rw [if_pos hc21] at hf
      refine hG.1 10 165 kb_193_165 _ _ _ rfl ?_
      refine hG.1 11 166 kb_193_166 _ _ _ rfl ?_
      cases hf
      exact And.intro (fun _ => Or.inl rfl) (And.intro rfl rfl)
    · rw [if_neg hc21] at hf
      refine hG.1 11 166 kb_193_166 _ _ _ rfl ?_
      cases hf
      exact And.intro (fun _ => Or.inr rfl) (And.intro rfl rfl)
  have hj_119 : ∀ (h : pb_HP) (v0 : Nat) (v2 : Int32) (s0 : Int32) (s1 : Int32) (s2 : Nat), f_193_119 N h v0 v2 s0 s1 s2 = some ((r, hE)) → G 119 [(0, .ref v0), (2, .int v2)] [.int s0, .int s1, .ref s2] h := by
    intro h v0 v2 s0 s1 s2 hf
    unfold f_193_119 at hf
    refine hG.1 6 119 kb_193_119 _ _ _ rfl ?_
    obtain ⟨hg14, hf⟩ := pb_gd hf
    obtain ⟨hg15, hf⟩ := pb_gd hf
    obtain ⟨q16, eq16, hf⟩ := Option.bind_eq_some_iff.mp hf
    refine And.intro hg14 (And.intro hg15 (Exists.intro q16 (And.intro eq16 (?_))))
    refine And.intro (fun (hc23 : ¬ v2 = 0) => ?_) (fun (hc23 : ¬ (¬ v2 = 0)) => ?_)
    · rw [if_pos hc23] at hf
      refine hG.1 7 136 kb_193_136 _ _ _ rfl ?_
      refine And.intro hg15 (?_)
      refine And.intro (fun (hc22 : (pb_I (pb_pI h s2 s1.toNatClampNeg s0) v0 16) ≤ 0) => ?_) (fun (hc22 : ¬ ((pb_I (pb_pI h s2 s1.toNatClampNeg s0) v0 16) ≤ 0)) => ?_)
      · rw [if_pos hc22] at hf
        refine hG.1 8 150 kb_193_150 _ _ _ rfl ?_
        refine hG.2 151 _ [0] _ _ _ rfl ?_
        exact hj_151 _ _ _ _ _ hf
      · rw [if_neg hc22] at hf
        refine And.intro hg15 (?_)
        refine hG.2 151 _ [0] _ _ _ rfl ?_
        exact hj_151 _ _ _ _ _ hf
    · rw [if_neg hc23] at hf
      refine And.intro hg15 (?_)
      refine hG.2 151 _ [0] _ _ _ rfl ?_
      exact hj_151 _ _ _ _ _ hf
  have hj_102 : ∀ (h : pb_HP) (v0 : Nat) (v2 : Int32), f_193_102 N h v0 v2 = some ((r, hE)) → G 102 [(0, .ref v0), (2, .int v2)] [] h := by
    intro h v0 v2 hf
    unfold f_193_102 at hf
    refine hG.1 4 102 kb_193_102 _ _ _ rfl ?_
    obtain ⟨hg12, hf⟩ := pb_gd hf
    obtain ⟨q13, eq13, hf⟩ := Option.bind_eq_some_iff.mp hf
    refine And.intro hg12 (Exists.intro q13 (And.intro eq13 (?_)))
    refine And.intro (fun (hc24 : v2 = 0) => ?_) (fun (hc24 : ¬ (v2 = 0)) => ?_)
    · rw [if_pos hc24] at hf
      refine hG.1 5 118 kb_193_118 _ _ _ rfl ?_
      exact hj_119 _ _ _ _ _ _ hf
    · rw [if_neg hc24] at hf
      refine And.intro hg12 (?_)
      exact hj_119 _ _ _ _ _ _ hf
  have hj_93 : ∀ (h : pb_HP) (v0 : Nat) (v2 : Int32), f_193_93 N h v0 v2 = some ((r, hE)) → G 93 [(0, .ref v0), (2, .int v2)] [] h := by
    intro h v0 v2 hf
    unfold f_193_93 at hf
    refine hG.1 3 93 kb_193_93 _ _ _ rfl ?_
    obtain ⟨hg28, hf⟩ := pb_gd hf
    refine And.intro hg28 (?_)
    obtain ⟨h30, cr29, hf⟩ := Option.bind_eq_some_iff.mp hf
    refine And.intro hg28 (And.intro (Nat.le_of_ble_eq_true rfl) (And.intro (Nat.le_of_ble_eq_true rfl) (Exists.intro none (Exists.intro _ (And.intro (l_182 cr29) (?_))))))
    exact hj_102 _ _ _ hf
  unfold f_193 at hf
  refine hG.1 0 0 kb_193_0 _ _ _ rfl ?_
  obtain ⟨e5, he_e5, hf⟩ := Option.bind_eq_some_iff.mp hf
  refine hl_2 _ _ _ _ _ he_e5 ?_
  refine hG.1 2 22 kb_193_22 _ _ _ rfl ?_
  obtain ⟨hg6, hf⟩ := pb_gd hf
  refine And.intro hg6 (And.intro hg6 (And.intro hg6 (And.intro hg6 (?_))))
  obtain ⟨h8, cr7, hf⟩ := Option.bind_eq_some_iff.mp hf
  refine And.intro hg6 (And.intro (Nat.le_of_ble_eq_true rfl) (And.intro (Nat.le_of_ble_eq_true rfl) (Exists.intro none (Exists.intro _ (And.intro (l_180 cr7) (?_))))))
  obtain ⟨hg9, hf⟩ := pb_gd hf
  obtain ⟨⟨r10, h11⟩, cr10, hf⟩ := Option.bind_eq_some_iff.mp hf
  try dsimp only at hf
  refine And.intro hg9 (And.intro (Nat.le_of_ble_eq_true rfl) (And.intro (Nat.le_of_ble_eq_true rfl) (Exists.intro (some (.int r10)) (Exists.intro _ (And.intro (l_192 cr10) (?_))))))
  refine And.intro (fun (hc36 : r10 = 0) => ?_) (fun (hc36 : ¬ (r10 = 0)) => ?_)
  · rw [if_pos hc36] at hf
    refine hG.2 102 _ [0, 2] _ _ _ rfl ?_
    exact hj_102 _ _ _ hf
  · rw [if_neg hc36] at hf
    refine And.intro (fun (hc35 : ¬ v1 = 0) => ?_) (fun (hc35 : ¬ (¬ v1 = 0)) => ?_)
    · rw [if_pos hc35] at hf
      refine hG.2 102 _ [0, 2] _ _ _ rfl ?_
      exact hj_102 _ _ _ hf
    · rw [if_neg hc35] at hf
      obtain ⟨hg25, hf⟩ := pb_gd hf
      refine And.intro hg25 (?_)
      refine And.intro (fun (hc34 : ¬ (pb_I h11 v0 16) = 0) => ?_) (fun (hc34 : ¬ (¬ (pb_I h11 v0 16) = 0)) => ?_)
      · rw [if_pos hc34] at hf
        refine hG.2 102 _ [0, 2] _ _ _ rfl ?_
        exact hj_102 _ _ _ hf
      · rw [if_neg hc34] at hf
        obtain ⟨q26, eq26, hf⟩ := Option.bind_eq_some_iff.mp hf
        obtain ⟨hg27, hf⟩ := pb_gd hf
        refine And.intro hg25 (And.intro hg25 (Exists.intro q26 (And.intro eq26 (And.intro hg27 (?_)))))
        refine And.intro (fun (hc33 : (pb_I h11 q26 (0 : Int32).toNatClampNeg) ≤ (pb_I h11 v0 20)) => ?_) (fun (hc33 : ¬ ((pb_I h11 q26 (0 : Int32).toNatClampNeg) ≤ (pb_I h11 v0 20))) => ?_)
        · rw [if_pos hc33] at hf
          refine hG.2 93 _ [0, 2] _ _ _ rfl ?_
          exact hj_93 _ _ _ hf
        · rw [if_neg hc33] at hf
          obtain ⟨hg31, hf⟩ := pb_gd hf
          refine And.intro hg25 (And.intro hg25 (Exists.intro q26 (And.intro eq26 (And.intro hg31 (?_)))))
          refine And.intro (fun (hc32 : (pb_I h11 v0 21) < (pb_I h11 q26 (1 : Int32).toNatClampNeg)) => ?_) (fun (hc32 : ¬ ((pb_I h11 v0 21) < (pb_I h11 q26 (1 : Int32).toNatClampNeg))) => ?_)
          · rw [if_pos hc32] at hf
            refine hG.2 102 _ [0, 2] _ _ _ rfl ?_
            exact hj_102 _ _ _ hf
          · rw [if_neg hc32] at hf
            refine hG.2 93 _ [0, 2] _ _ _ rfl ?_
            exact hj_93 _ _ _ hf
def f_220_40 (N : Nat) (h : pb_HP) (v0 : Nat) (v1 : Int32) (v2 : Int32) (v3 : Int32) : Option (Int32 × pb_HP) :=
  if pb_is h v0 11 then ((f_218 h v0 v1 v2 v3).bind fun (r3, h4) => (if r3 = 0 ∨ r3 = 1 then (some ((r3, h4))) else none)) else none
def f_220_48 (N : Nat) (h : pb_HP) (v0 : Nat) (v1 : Int32) (v2 : Int32) (v3 : Int32) (v4 : Int32) : Option (Int32 × pb_HP) :=
  if pb_is h v0 11 then ((f_219 h v0 v1 v2 v3 v4).bind fun (r9, h10) => (if r9 = 0 ∨ r9 = 1 then (some ((r9, h10))) else none)) else none
/-- PointedBenchModel.does -/
def f_220 (N : Nat) (h : pb_HP) (v0 : Nat) (v1 : Int32) (v2 : Int32) (v3 : Int32) (v4 : Int32) : Option (Int32 × pb_HP) :=
  if v1 = 0 then (f_220_40 N h v0 v1 v2 v3) else if v1 = 1 then (f_220_40 N h v0 v1 v2 v3) else if v1 = 2 then (f_220_48 N h v0 v1 v2 v3 v4) else if v1 = 3 then (f_220_48 N h v0 v1 v2 v3 v4) else if v1 = 4 then (f_220_48 N h v0 v1 v2 v3 v4) else if v1 = 5 then (if pb_is h v0 11 then ((f_210 N h v0).bind fun (r16, h17) => (if pb_is h17 v0 11 then (some ((1, pb_pI (pb_pI h17 v0 27 r16) v0 28 ((pb_I (pb_pI h17 v0 27 r16) v0 28) + 1)))) else none)) else none) else (if pb_is h v0 11 then ((f_217 N h v0).bind fun (r20, h21) => (if r20 = 0 ∨ r20 = 1 then (some ((r20, h21))) else none)) else none)
set_option maxRecDepth 4000 in
theorem l_220 {xs : List Int32} {d : Nat} {N : Nat} {h : pb_HP} {v0 : Nat} {v1 : Int32} {v2 : Int32} {v3 : Int32} {v4 : Int32} {r : Int32} {hE : pb_HP} (hf : f_220 N h v0 v1 v2 v3 v4 = some ((r, hE))) : pb_AR xs (d + 7) 220 h [.ref v0, .int v1, .int v2, .int v3, .int v4] (some (.int r)) hE := by
  intro G hG
  have hc_ : pb_CODE 220 = kc_220 := rfl
  rw [hc_] at hG
  have hj_40 : ∀ (h : pb_HP) (v0 : Nat) (v1 : Int32) (v2 : Int32) (v3 : Int32), f_220_40 N h v0 v1 v2 v3 = some ((r, hE)) → G 40 [(0, .ref v0), (1, .int v1), (2, .int v2), (3, .int v3)] [] h := by
    intro h v0 v1 v2 v3 hf
    unfold f_220_40 at hf
    refine hG.1 1 40 kb_220_40 _ _ _ rfl ?_
    obtain ⟨hg2, hf⟩ := pb_gd hf
    obtain ⟨⟨r3, h4⟩, cr3, hf⟩ := Option.bind_eq_some_iff.mp hf
    try dsimp only at hf
    refine And.intro hg2 (And.intro (Nat.le_of_ble_eq_true rfl) (And.intro (Nat.le_of_ble_eq_true rfl) (Exists.intro (some (.int r3)) (Exists.intro _ (And.intro (l_218 cr3) (?_))))))
    obtain ⟨hg5, hf⟩ := pb_gd hf
    cases hf
    exact And.intro (fun _ => hg5) (And.intro rfl rfl)
  have hj_48 : ∀ (h : pb_HP) (v0 : Nat) (v1 : Int32) (v2 : Int32) (v3 : Int32) (v4 : Int32), f_220_48 N h v0 v1 v2 v3 v4 = some ((r, hE)) → G 48 [(0, .ref v0), (1, .int v1), (2, .int v2), (3, .int v3), (4, .int v4)] [] h := by
    intro h v0 v1 v2 v3 v4 hf
    unfold f_220_48 at hf
    refine hG.1 2 48 kb_220_48 _ _ _ rfl ?_
    obtain ⟨hg8, hf⟩ := pb_gd hf
    obtain ⟨⟨r9, h10⟩, cr9, hf⟩ := Option.bind_eq_some_iff.mp hf
    try dsimp only at hf
    refine And.intro hg8 (And.intro (Nat.le_of_ble_eq_true rfl) (And.intro (Nat.le_of_ble_eq_true rfl) (Exists.intro (some (.int r9)) (Exists.intro _ (And.intro (l_219 cr9) (?_))))))
    obtain ⟨hg11, hf⟩ := pb_gd hf
    cases hf
    exact And.intro (fun _ => hg11) (And.intro rfl rfl)
  unfold f_220 at hf
  refine hG.1 0 0 kb_220_0 _ _ _ rfl ?_
  by_cases hc1 : v1 = 0
  · rw [if_pos hc1] at hf
    refine pb_gs (G := G) (tgt := 40) (show pb_swt 1 77 0 5 #[39, 39, 47, 47, 47, 57] v1 = 40 by rw [hc1]; decide) ?_
    refine hG.2 40 _ [0, 1, 2, 3] _ _ _ rfl ?_
    exact hj_40 _ _ _ _ _ hf
  rw [if_neg hc1] at hf
  by_cases hc6 : v1 = 1
  · rw [if_pos hc6] at hf
    refine pb_gs (G := G) (tgt := 40) (show pb_swt 1 77 0 5 #[39, 39, 47, 47, 47, 57] v1 = 40 by rw [hc6]; decide) ?_
    refine hG.2 40 _ [0, 1, 2, 3] _ _ _ rfl ?_
    exact hj_40 _ _ _ _ _ hf
  rw [if_neg hc6] at hf
  by_cases hc7 : v1 = 2
  · rw [if_pos hc7] at hf
    refine pb_gs (G := G) (tgt := 48) (show pb_swt 1 77 0 5 #[39, 39, 47, 47, 47, 57] v1 = 48 by rw [hc7]; decide) ?_
    exact hj_48 _ _ _ _ _ _ hf
  rw [if_neg hc7] at hf
  by_cases hc12 : v1 = 3
  · rw [if_pos hc12] at hf
    refine pb_gs (G := G) (tgt := 48) (show pb_swt 1 77 0 5 #[39, 39, 47, 47, 47, 57] v1 = 48 by rw [hc12]; decide) ?_
    exact hj_48 _ _ _ _ _ _ hf
  rw [if_neg hc12] at hf
  by_cases hc13 : v1 = 4
  · rw [if_pos hc13] at hf
    refine pb_gs (G := G) (tgt := 48) (show pb_swt 1 77 0 5 #[39, 39, 47, 47, 47, 57] v1 = 48 by rw [hc13]; decide) ?_
    exact hj_48 _ _ _ _ _ _ hf
  rw [if_neg hc13] at hf
  by_cases hc14 : v1 = 5
  · rw [if_pos hc14] at hf
    refine pb_gs (G := G) (tgt := 58) (show pb_swt 1 77 0 5 #[39, 39, 47, 47, 47, 57] v1 = 58 by rw [hc14]; decide) ?_
    refine hG.1 3 58 kb_220_58 _ _ _ rfl ?_
    obtain ⟨hg15, hf⟩ := pb_gd hf
    obtain ⟨⟨r16, h17⟩, cr16, hf⟩ := Option.bind_eq_some_iff.mp hf
    try dsimp only at hf
    refine And.intro hg15 (And.intro (Nat.le_of_ble_eq_true rfl) (And.intro (Nat.le_of_ble_eq_true rfl) (Exists.intro (some (.int r16)) (Exists.intro _ (And.intro (l_210 cr16) (?_))))))
    obtain ⟨hg18, hf⟩ := pb_gd hf
    refine And.intro hg18 (And.intro hg18 (And.intro hg18 (?_)))
    cases hf
    exact And.intro (fun _ => Or.inr rfl) (And.intro rfl rfl)
  rw [if_neg hc14] at hf
  refine pb_gs (G := G) (tgt := 78) (show pb_swt 1 77 0 5 #[39, 39, 47, 47, 47, 57] v1 = 78 from pb_swd (by decide) (by decide) (fun k_ hk_ => by
    have hk_ : k_ < 6 := hk_
    match k_, hk_ with
    | 0, _ => exact hc1
    | 1, _ => exact hc6
    | 2, _ => exact hc7
    | 3, _ => exact hc12
    | 4, _ => exact hc13
    | 5, _ => exact hc14
    | k_ + 6, hk_ => omega)) ?_
  refine hG.1 4 78 kb_220_78 _ _ _ rfl ?_
  obtain ⟨hg19, hf⟩ := pb_gd hf
  obtain ⟨⟨r20, h21⟩, cr20, hf⟩ := Option.bind_eq_some_iff.mp hf
  try dsimp only at hf
  refine And.intro hg19 (And.intro (Nat.le_of_ble_eq_true rfl) (And.intro (Nat.le_of_ble_eq_true rfl) (Exists.intro (some (.int r20)) (Exists.intro _ (And.intro (l_217 cr20) (?_))))))
  obtain ⟨hg22, hf⟩ := pb_gd hf
  cases hf
  exact And.intro (fun _ => hg22) (And.intro rfl rfl)
/-- PointedBenchModel.ofState -/
def f_226 (N : Nat) (h : pb_HP) (v0 : Nat) (v1 : Int32) : Option (Int32 × pb_HP) :=
  if v1 < 100 then (if v1 = 0 then (if pb_is h v0 11 then (some ((pb_I h v0 26, h))) else none) else if v1 = 1 then (if pb_is h v0 11 then (some ((pb_I h v0 27, h))) else none) else if v1 = 2 then (if pb_is h v0 11 then (some ((pb_I h v0 28, h))) else none) else if v1 = 3 then (if pb_is h v0 11 then ((f_203 N h v0).bind fun r9 => (some ((r9, h)))) else none) else if v1 = 4 then (if pb_is h v0 11 then ((f_210 N h v0).bind fun (r12, h13) => (some ((r12, h13)))) else none) else if v1 = 5 then (if pb_is h v0 11 then (some ((pb_I h v0 29, h))) else none) else (if pb_is h v0 11 then ((f_225 N h v0 v1).bind fun r17 => (some ((r17, h)))) else none)) else (if 160 ≤ v1 then (some (((-1), h))) else (if pb_is h v0 11 then ((f_201 h v0 ((v1 - 100) / 10)).bind fun r19 => (if r19 = 0 then (some (((-1), h))) else (if 6 ≤ (v1 - v1 / 10 * 10) then (some (((-1), h))) else ((pb_R h v0 34).bind fun q20 => (if pb_ar h q20 12 ((6 * ((v1 - 100) / 10)) + (v1 - v1 / 10 * 10)) then (some ((pb_I h q20 ((6 * ((v1 - 100) / 10)) + (v1 - v1 / 10 * 10)).toNatClampNeg, h))) else none))))) else none))
set_option maxRecDepth 4000 in
theorem l_226 {xs : List Int32} {d : Nat} {N : Nat} {h : pb_HP} {v0 : Nat} {v1 : Int32} {r : Int32} {hE : pb_HP} (hf : f_226 N h v0 v1 = some ((r, hE))) : pb_AR xs (d + 7) 226 h [.ref v0, .int v1] (some (.int r)) hE := by
  intro G hG
  have hc_ : pb_CODE 226 = kc_226 := rfl
  rw [hc_] at hG
  unfold f_226 at hf
  refine hG.1 0 0 kb_226_0 _ _ _ rfl ?_
  refine And.intro (fun (hc25 : v1 < 100) => ?_) (fun (hc25 : ¬ (v1 < 100)) => ?_)
  · rw [if_pos hc25] at hf
    refine hG.1 3 61 kb_226_61 _ _ _ rfl ?_
    by_cases hc1 : v1 = 0
    · rw [if_pos hc1] at hf
      refine pb_gs (G := G) (tgt := 100) (show pb_swt 62 68 0 5 #[38, 43, 48, 53, 58, 63] v1 = 100 by rw [hc1]; decide) ?_
      refine hG.1 4 100 kb_226_100 _ _ _ rfl ?_
      obtain ⟨hg2, hf⟩ := pb_gd hf
      refine And.intro hg2 (?_)
      cases hf
      exact And.intro (fun z_ => absurd z_ (by decide)) (And.intro rfl rfl)
    rw [if_neg hc1] at hf
    by_cases hc3 : v1 = 1
    · rw [if_pos hc3] at hf
      refine pb_gs (G := G) (tgt := 105) (show pb_swt 62 68 0 5 #[38, 43, 48, 53, 58, 63] v1 = 105 by rw [hc3]; decide) ?_
      refine hG.1 5 105 kb_226_105 _ _ _ rfl ?_
      obtain ⟨hg4, hf⟩ := pb_gd hf
      refine And.intro hg4 (?_)
      cases hf
      exact And.intro (fun z_ => absurd z_ (by decide)) (And.intro rfl rfl)
    rw [if_neg hc3] at hf
    by_cases hc5 : v1 = 2
    · rw [if_pos hc5] at hf
      refine pb_gs (G := G) (tgt := 110) (show pb_swt 62 68 0 5 #[38, 43, 48, 53, 58, 63] v1 = 110 by rw [hc5]; decide) ?_
      refine hG.1 6 110 kb_226_110 _ _ _ rfl ?_
      obtain ⟨hg6, hf⟩ := pb_gd hf
      refine And.intro hg6 (?_)
      cases hf
      exact And.intro (fun z_ => absurd z_ (by decide)) (And.intro rfl rfl)
    rw [if_neg hc5] at hf
    by_cases hc7 : v1 = 3
    · rw [if_pos hc7] at hf
      refine pb_gs (G := G) (tgt := 115) (show pb_swt 62 68 0 5 #[38, 43, 48, 53, 58, 63] v1 = 115 by rw [hc7]; decide) ?_
      refine hG.1 7 115 kb_226_115 _ _ _ rfl ?_
      obtain ⟨hg8, hf⟩ := pb_gd hf
      obtain ⟨r9, cr9, hf⟩ := Option.bind_eq_some_iff.mp hf
      refine And.intro hg8 (And.intro (Nat.le_of_ble_eq_true rfl) (And.intro (Nat.le_of_ble_eq_true rfl) (Exists.intro (some (.int r9)) (Exists.intro _ (And.intro (l_203 cr9) (?_))))))
      cases hf
      exact And.intro (fun z_ => absurd z_ (by decide)) (And.intro rfl rfl)
    rw [if_neg hc7] at hf
    by_cases hc10 : v1 = 4
    · rw [if_pos hc10] at hf
      refine pb_gs (G := G) (tgt := 120) (show pb_swt 62 68 0 5 #[38, 43, 48, 53, 58, 63] v1 = 120 by rw [hc10]; decide) ?_
      refine hG.1 8 120 kb_226_120 _ _ _ rfl ?_
      obtain ⟨hg11, hf⟩ := pb_gd hf
      obtain ⟨⟨r12, h13⟩, cr12, hf⟩ := Option.bind_eq_some_iff.mp hf
      try dsimp only at hf
      refine And.intro hg11 (And.intro (Nat.le_of_ble_eq_true rfl) (And.intro (Nat.le_of_ble_eq_true rfl) (Exists.intro (some (.int r12)) (Exists.intro _ (And.intro (l_210 cr12) (?_))))))
      cases hf
      exact And.intro (fun z_ => absurd z_ (by decide)) (And.intro rfl rfl)
    rw [if_neg hc10] at hf
    by_cases hc14 : v1 = 5
    · rw [if_pos hc14] at hf
      refine pb_gs (G := G) (tgt := 125) (show pb_swt 62 68 0 5 #[38, 43, 48, 53, 58, 63] v1 = 125 by rw [hc14]; decide) ?_
      refine hG.1 9 125 kb_226_125 _ _ _ rfl ?_
      obtain ⟨hg15, hf⟩ := pb_gd hf
      refine And.intro hg15 (?_)
      cases hf
      exact And.intro (fun z_ => absurd z_ (by decide)) (And.intro rfl rfl)
    rw [if_neg hc14] at hf
    refine pb_gs (G := G) (tgt := 130) (show pb_swt 62 68 0 5 #[38, 43, 48, 53, 58, 63] v1 = 130 from pb_swd (by decide) (by decide) (fun k_ hk_ => by
      have hk_ : k_ < 6 := hk_
      match k_, hk_ with
      | 0, _ => exact hc1
      | 1, _ => exact hc3
      | 2, _ => exact hc5
      | 3, _ => exact hc7
      | 4, _ => exact hc10
      | 5, _ => exact hc14
      | k_ + 6, hk_ => omega)) ?_
    refine hG.1 10 130 kb_226_130 _ _ _ rfl ?_
    obtain ⟨hg16, hf⟩ := pb_gd hf
    obtain ⟨r17, cr17, hf⟩ := Option.bind_eq_some_iff.mp hf
    refine And.intro hg16 (And.intro (Nat.le_of_ble_eq_true rfl) (And.intro (Nat.le_of_ble_eq_true rfl) (Exists.intro (some (.int r17)) (Exists.intro _ (And.intro (l_225 cr17) (?_))))))
    cases hf
    exact And.intro (fun z_ => absurd z_ (by decide)) (And.intro rfl rfl)
  · rw [if_neg hc25] at hf
    refine And.intro (fun (hc24 : 160 ≤ v1) => ?_) (fun (hc24 : ¬ (160 ≤ v1)) => ?_)
    · rw [if_pos hc24] at hf
      refine hG.1 1 59 kb_226_59 _ _ _ rfl ?_
      refine hG.1 2 60 kb_226_60 _ _ _ rfl ?_
      cases hf
      exact And.intro (fun z_ => absurd z_ (by decide)) (And.intro rfl rfl)
    · rw [if_neg hc24] at hf
      obtain ⟨hg18, hf⟩ := pb_gd hf
      refine And.intro (by decide) (?_)
      obtain ⟨r19, cr19, hf⟩ := Option.bind_eq_some_iff.mp hf
      refine And.intro hg18 (And.intro (Nat.le_of_ble_eq_true rfl) (And.intro (Nat.le_of_ble_eq_true rfl) (Exists.intro (some (.int r19)) (Exists.intro _ (And.intro (l_201 cr19) (?_))))))
      refine And.intro (fun (hc23 : r19 = 0) => ?_) (fun (hc23 : ¬ (r19 = 0)) => ?_)
      · rw [if_pos hc23] at hf
        refine hG.1 1 59 kb_226_59 _ _ _ rfl ?_
        refine hG.1 2 60 kb_226_60 _ _ _ rfl ?_
        cases hf
        exact And.intro (fun z_ => absurd z_ (by decide)) (And.intro rfl rfl)
      · rw [if_neg hc23] at hf
        refine And.intro (by decide) (?_)
        refine And.intro (fun (hc22 : 6 ≤ (v1 - v1 / 10 * 10)) => ?_) (fun (hc22 : ¬ (6 ≤ (v1 - v1 / 10 * 10))) => ?_)
        · rw [if_pos hc22] at hf
          refine hG.1 1 59 kb_226_59 _ _ _ rfl ?_
          refine hG.1 2 60 kb_226_60 _ _ _ rfl ?_
          cases hf
          exact And.intro (fun z_ => absurd z_ (by decide)) (And.intro rfl rfl)
        · rw [if_neg hc22] at hf
          obtain ⟨q20, eq20, hf⟩ := Option.bind_eq_some_iff.mp hf
          obtain ⟨hg21, hf⟩ := pb_gd hf
          refine And.intro hg18 (Exists.intro q20 (And.intro eq20 (And.intro (by decide) (And.intro (by decide) (And.intro hg21 (?_))))))
          refine hG.1 2 60 kb_226_60 _ _ _ rfl ?_
          cases hf
          exact And.intro (fun z_ => absurd z_ (by decide)) (And.intro rfl rfl)
def f_229_68 (N : Nat) (h : pb_HP) (v0 : Nat) (v2 : Int32) (v3 : Int32) (v4 : Int32) (v5 : Int32) (v6 : Int32) (s0 : Int32) : Option ((Int32 × Int32 × pb_HP) ⊕ (Int32 × pb_HP)) :=
  if pb_is h v0 11 then ((pb_R h v0 30).bind fun q9 => (if pb_ar h q9 12 v2 then (if s0 = 0 then (some (.inl ((v5, v6 + 1, pb_pI h q9 v2.toNatClampNeg (v4 ||| v6))))) else (if ¬ (v6 &&& v4) = 0 then (some (.inl ((v5, v6 + 1, pb_pI h q9 v2.toNatClampNeg (v4 ||| v6))))) else ((f_210 N (pb_pI h q9 v2.toNatClampNeg (v4 ||| v6)) v0).bind fun (r11, h12) => (if ¬ r11 = v2 then (some (.inl ((v5, v6 + 1, h12)))) else (some (.inl ((v6, v6 + 1, h12)))))))) else none)) else none
def f_229_37s (N : Nat) (v0 : Nat) (v2 : Int32) (v3 : Int32) (v4 : Int32) (s : Int32 × Int32 × pb_HP) : Option ((Int32 × Int32 × pb_HP) ⊕ (Int32 × pb_HP)) :=
  if 64 ≤ s.2.1 then (some (.inr ((s.1, s.2.2)))) else (if s.1 = ((-1)) then (f_229_68 N s.2.2 v0 v2 v3 v4 s.1 s.2.1 1) else ((f_172 N s.2.1).bind fun r16 => ((f_172 N s.1).bind fun r17 => (if r17 ≤ r16 then (f_229_68 N s.2.2 v0 v2 v3 v4 s.1 s.2.1 0) else (f_229_68 N s.2.2 v0 v2 v3 v4 s.1 s.2.1 1)))))
/-- PointedBenchModel.show -/
def f_229 (N : Nat) (h : pb_HP) (v0 : Nat) (v1 : Int32) (v2 : Int32) (v3 : Int32) : Option (Int32 × pb_HP) :=
  if pb_is h v0 11 then ((f_198 N (pb_pI h v0 0 0) v0 v1).bind fun (r2, h3) => (if r2 = 0 then (some (((-1), h3))) else (if pb_is h3 v0 11 then ((f_200 h3 v0 v2).bind fun r5 => (if ¬ r5 = 0 then ((pb_R h3 v0 30).bind fun q6 => (if pb_ar h3 q6 12 v2 then ((pb_wl (f_229_37s N v0 v2 v3 (pb_I h3 q6 v2.toNatClampNeg)) N (((-1), 0, h3))).bind fun e21 => (if e21.1 = ((-1)) then (some ((e21.1, e21.2))) else (if v3 = 0 then ((f_172 N e21.1).bind fun r22 => (some ((r22, e21.2)))) else (some ((e21.1, e21.2)))))) else none)) else (some (((-1), h3))))) else none))) else none
set_option maxRecDepth 4000 in
theorem l_229 {xs : List Int32} {d : Nat} {N : Nat} {h : pb_HP} {v0 : Nat} {v1 : Int32} {v2 : Int32} {v3 : Int32} {r : Int32} {hE : pb_HP} (hf : f_229 N h v0 v1 v2 v3 = some ((r, hE))) : pb_AR xs (d + 7) 229 h [.ref v0, .int v1, .int v2, .int v3] (some (.int r)) hE := by
  intro G hG
  have hc_ : pb_CODE 229 = kc_229 := rfl
  rw [hc_] at hG
  have hj_68 : ∀ (h : pb_HP) (v0 : Nat) (v2 : Int32) (v3 : Int32) (v4 : Int32) (v5 : Int32) (v6 : Int32) (s0 : Int32) x, f_229_68 N h v0 v2 v3 v4 v5 v6 s0 = some x → pb_kk (fun (s_ : Int32 × Int32 × pb_HP) => G 37 [(0, .ref v0), (2, .int v2), (3, .int v3), (4, .int v4), (5, .int s_.1), (6, .int s_.2.1)] [] s_.2.2) (fun (e_ : Int32 × pb_HP) => G 117 [(3, .int v3), (5, .int e_.1)] [] e_.2) x → G 68 [(0, .ref v0), (2, .int v2), (3, .int v3), (4, .int v4), (5, .int v5), (6, .int v6)] [.int s0] h := by
    intro h v0 v2 v3 v4 v5 v6 s0 x hf hk
    unfold f_229_68 at hf
    refine hG.1 6 68 kb_229_68 _ _ _ rfl ?_
    obtain ⟨hg8, hf⟩ := pb_gd hf
    obtain ⟨q9, eq9, hf⟩ := Option.bind_eq_some_iff.mp hf
    obtain ⟨hg10, hf⟩ := pb_gd hf
    refine And.intro hg8 (Exists.intro q9 (And.intro eq9 (And.intro hg10 (?_))))
    refine And.intro (fun (hc15 : s0 = 0) => ?_) (fun (hc15 : ¬ (s0 = 0)) => ?_)
    · rw [if_pos hc15] at hf
      refine hG.1 7 107 kb_229_107 _ _ _ rfl ?_
      refine hG.1 8 109 kb_229_109 _ _ _ rfl ?_
      cases hf
      exact hG.2 37 _ [0, 1, 2, 3, 4, 5] _ _ _ rfl hk
    · rw [if_neg hc15] at hf
      refine And.intro (fun (hc14 : ¬ (v6 &&& v4) = 0) => ?_) (fun (hc14 : ¬ (¬ (v6 &&& v4) = 0)) => ?_)
      · rw [if_pos hc14] at hf
        refine hG.1 7 107 kb_229_107 _ _ _ rfl ?_
        refine hG.1 8 109 kb_229_109 _ _ _ rfl ?_
        cases hf
        exact hG.2 37 _ [0, 1, 2, 3, 4, 5] _ _ _ rfl hk
      · rw [if_neg hc14] at hf
        obtain ⟨⟨r11, h12⟩, cr11, hf⟩ := Option.bind_eq_some_iff.mp hf
        try dsimp only at hf
        refine And.intro hg8 (And.intro (Nat.le_of_ble_eq_true rfl) (And.intro (Nat.le_of_ble_eq_true rfl) (Exists.intro (some (.int r11)) (Exists.intro _ (And.intro (l_210 cr11) (?_))))))
        refine And.intro (fun (hc13 : ¬ r11 = v2) => ?_) (fun (hc13 : ¬ (¬ r11 = v2)) => ?_)
        · rw [if_pos hc13] at hf
          refine hG.1 7 107 kb_229_107 _ _ _ rfl ?_
          refine hG.1 8 109 kb_229_109 _ _ _ rfl ?_
          cases hf
          exact hG.2 37 _ [0, 1, 2, 3, 4, 5] _ _ _ rfl hk
        · rw [if_neg hc13] at hf
          refine hG.1 8 109 kb_229_109 _ _ _ rfl ?_
          cases hf
          exact hG.2 37 _ [0, 1, 2, 3, 4, 5] _ _ _ rfl hk
  have hl_37 : ∀ (v0 : Nat) (v2 : Int32) (v3 : Int32) (v4 : Int32) (n_ : Nat) (s : Int32 × Int32 × pb_HP) (e : Int32 × pb_HP), pb_wl (f_229_37s N v0 v2 v3 v4) n_ s = some e → G 117 [(3, .int v3), (5, .int e.1)] [] e.2 → G 37 [(0, .ref v0), (2, .int v2), (3, .int v3), (4, .int v4), (5, .int s.1), (6, .int s.2.1)] [] s.2.2 := by
    intro v0 v2 v3 v4
    refine pb_wl_ind (I := fun (s : Int32 × Int32 × pb_HP) => G 37 [(0, .ref v0), (2, .int v2), (3, .int v3), (4, .int v4), (5, .int s.1), (6, .int s.2.1)] [] s.2.2) (K := fun (e : Int32 × pb_HP) => G 117 [(3, .int v3), (5, .int e.1)] [] e.2) (fun s x hf hk => ?_)
    unfold f_229_37s at hf
    refine hG.1 3 37 kb_229_37 _ _ _ rfl ?_
    refine And.intro (fun (hc20 : 64 ≤ s.2.1) => ?_) (fun (hc20 : ¬ (64 ≤ s.2.1)) => ?_)
    · rw [if_pos hc20] at hf
      cases hf
      exact hG.2 117 _ [2, 4] _ _ _ rfl hk
    · rw [if_neg hc20] at hf
      refine And.intro (fun (hc19 : s.1 = ((-1))) => ?_) (fun (hc19 : ¬ (s.1 = ((-1)))) => ?_)
      · rw [if_pos hc19] at hf
        refine hG.1 4 63 kb_229_63 _ _ _ rfl ?_
        exact hj_68 _ _ _ _ _ _ _ _ _ hf hk
      · rw [if_neg hc19] at hf
        obtain ⟨r16, cr16, hf⟩ := Option.bind_eq_some_iff.mp hf
        refine And.intro (Nat.le_of_ble_eq_true rfl) (And.intro (Nat.le_of_ble_eq_true rfl) (And.intro (Nat.le_of_ble_eq_true rfl) (Exists.intro (some (.int r16)) (Exists.intro _ (And.intro (l_172 cr16) (?_))))))
        obtain ⟨r17, cr17, hf⟩ := Option.bind_eq_some_iff.mp hf
        refine And.intro (Nat.le_of_ble_eq_true rfl) (And.intro (Nat.le_of_ble_eq_true rfl) (And.intro (Nat.le_of_ble_eq_true rfl) (Exists.intro (some (.int r17)) (Exists.intro _ (And.intro (l_172 cr17) (?_))))))
        refine And.intro (fun (hc18 : r17 ≤ r16) => ?_) (fun (hc18 : ¬ (r17 ≤ r16)) => ?_)
        · rw [if_pos hc18] at hf
          refine hG.1 5 67 kb_229_67 _ _ _ rfl ?_
          exact hj_68 _ _ _ _ _ _ _ _ _ hf hk
        · rw [if_neg hc18] at hf
          refine hG.1 4 63 kb_229_63 _ _ _ rfl ?_
          exact hj_68 _ _ _ _ _ _ _ _ _ hf hk
  unfold f_229 at hf
  refine hG.1 0 0 kb_229_0 _ _ _ rfl ?_
  obtain ⟨hg1, hf⟩ := pb_gd hf
  refine And.intro hg1 (?_)
  obtain ⟨⟨r2, h3⟩, cr2, hf⟩ := Option.bind_eq_some_iff.mp hf
  try dsimp only at hf
  refine And.intro hg1 (And.intro (Nat.le_of_ble_eq_true rfl) (And.intro (Nat.le_of_ble_eq_true rfl) (Exists.intro (some (.int r2)) (Exists.intro _ (And.intro (l_198 cr2) (?_))))))
  refine And.intro (fun (hc26 : r2 = 0) => ?_) (fun (hc26 : ¬ (r2 = 0)) => ?_)
  · rw [if_pos hc26] at hf
    refine hG.1 1 21 kb_229_21 _ _ _ rfl ?_
    cases hf
    exact And.intro (fun z_ => absurd z_ (by decide)) (And.intro rfl rfl)
  · rw [if_neg hc26] at hf
    obtain ⟨hg4, hf⟩ := pb_gd hf
    obtain ⟨r5, cr5, hf⟩ := Option.bind_eq_some_iff.mp hf
    refine And.intro hg4 (And.intro (Nat.le_of_ble_eq_true rfl) (And.intro (Nat.le_of_ble_eq_true rfl) (Exists.intro (some (.int r5)) (Exists.intro _ (And.intro (l_200 cr5) (?_))))))
    refine And.intro (fun (hc25 : ¬ r5 = 0) => ?_) (fun (hc25 : ¬ (¬ r5 = 0)) => ?_)
    · rw [if_pos hc25] at hf
      refine hG.1 2 23 kb_229_23 _ _ _ rfl ?_
      obtain ⟨q6, eq6, hf⟩ := Option.bind_eq_some_iff.mp hf
      obtain ⟨hg7, hf⟩ := pb_gd hf
      refine And.intro hg4 (Exists.intro q6 (And.intro eq6 (And.intro hg7 (?_))))
      obtain ⟨e21, he_e21, hf⟩ := Option.bind_eq_some_iff.mp hf
      refine hG.2 37 _ [0, 2, 3, 4, 5, 6] _ _ _ rfl ?_
      refine hl_37 _ _ _ _ _ _ _ he_e21 ?_
      refine hG.1 9 117 kb_229_117 _ _ _ rfl ?_
      refine And.intro (fun (hc24 : e21.1 = ((-1))) => ?_) (fun (hc24 : ¬ (e21.1 = ((-1)))) => ?_)
      · rw [if_pos hc24] at hf
        refine hG.1 10 127 kb_229_127 _ _ _ rfl ?_
        refine hG.1 12 137 kb_229_137 _ _ _ rfl ?_
        cases hf
        exact And.intro (fun z_ => absurd z_ (by decide)) (And.intro rfl rfl)
      · rw [if_neg hc24] at hf
        refine And.intro (fun (hc23 : v3 = 0) => ?_) (fun (hc23 : ¬ (v3 = 0)) => ?_)
        · rw [if_pos hc23] at hf
          refine hG.1 11 132 kb_229_132 _ _ _ rfl ?_
          obtain ⟨r22, cr22, hf⟩ := Option.bind_eq_some_iff.mp hf
          refine And.intro (Nat.le_of_ble_eq_true rfl) (And.intro (Nat.le_of_ble_eq_true rfl) (And.intro (Nat.le_of_ble_eq_true rfl) (Exists.intro (some (.int r22)) (Exists.intro _ (And.intro (l_172 cr22) (?_))))))
          refine hG.1 12 137 kb_229_137 _ _ _ rfl ?_
          cases hf
          exact And.intro (fun z_ => absurd z_ (by decide)) (And.intro rfl rfl)
        · rw [if_neg hc23] at hf
          refine hG.1 10 127 kb_229_127 _ _ _ rfl ?_
          refine hG.1 12 137 kb_229_137 _ _ _ rfl ?_
          cases hf
          exact And.intro (fun z_ => absurd z_ (by decide)) (And.intro rfl rfl)
    · rw [if_neg hc25] at hf
      refine hG.1 1 21 kb_229_21 _ _ _ rfl ?_
      cases hf
      exact And.intro (fun z_ => absurd z_ (by decide)) (And.intro rfl rfl)
/-- PointedBenchModel.bench -/
def f_231 (N : Nat) (h : pb_HP) (v0 : Nat) (v1 : Int32) (v2 : Int32) (v3 : Int32) : Option (Int32 × pb_HP) :=
  if pb_is h v0 11 then ((f_198 N (pb_pI h v0 0 0) v0 v1).bind fun (r2, h3) => (if r2 = 0 then (some (((-1), h3))) else (if pb_is h3 v0 11 then ((f_200 h3 v0 v2).bind fun r5 => (if ¬ r5 = 0 then ((f_230 N h3 v0 v2 1).bind fun (r6, h7) => (if r6 = ((-1)) then (some ((r6, h7))) else (if v3 = 0 then ((f_172 N r6).bind fun r8 => (some ((r8, h7)))) else (some ((r6, h7)))))) else (some (((-1), h3))))) else none))) else none
set_option maxRecDepth 4000 in
theorem l_231 {xs : List Int32} {d : Nat} {N : Nat} {h : pb_HP} {v0 : Nat} {v1 : Int32} {v2 : Int32} {v3 : Int32} {r : Int32} {hE : pb_HP} (hf : f_231 N h v0 v1 v2 v3 = some ((r, hE))) : pb_AR xs (d + 7) 231 h [.ref v0, .int v1, .int v2, .int v3] (some (.int r)) hE := by
  intro G hG
  have hc_ : pb_CODE 231 = kc_231 := rfl
  rw [hc_] at hG
  unfold f_231 at hf
  refine hG.1 0 0 kb_231_0 _ _ _ rfl ?_
  obtain ⟨hg1, hf⟩ := pb_gd hf
  refine And.intro hg1 (?_)
  obtain ⟨⟨r2, h3⟩, cr2, hf⟩ := Option.bind_eq_some_iff.mp hf
  try dsimp only at hf
  refine And.intro hg1 (And.intro (Nat.le_of_ble_eq_true rfl) (And.intro (Nat.le_of_ble_eq_true rfl) (Exists.intro (some (.int r2)) (Exists.intro _ (And.intro (l_198 cr2) (?_))))))
  refine And.intro (fun (hc12 : r2 = 0) => ?_) (fun (hc12 : ¬ (r2 = 0)) => ?_)
  · rw [if_pos hc12] at hf
    refine hG.1 1 21 kb_231_21 _ _ _ rfl ?_
    cases hf
    exact And.intro (fun z_ => absurd z_ (by decide)) (And.intro rfl rfl)
  · rw [if_neg hc12] at hf
    obtain ⟨hg4, hf⟩ := pb_gd hf
    obtain ⟨r5, cr5, hf⟩ := Option.bind_eq_some_iff.mp hf
    refine And.intro hg4 (And.intro (Nat.le_of_ble_eq_true rfl) (And.intro (Nat.le_of_ble_eq_true rfl) (Exists.intro (some (.int r5)) (Exists.intro _ (And.intro (l_200 cr5) (?_))))))
    refine And.intro (fun (hc11 : ¬ r5 = 0) => ?_) (fun (hc11 : ¬ (¬ r5 = 0)) => ?_)
    · rw [if_pos hc11] at hf
      refine hG.1 2 23 kb_231_23 _ _ _ rfl ?_
      obtain ⟨⟨r6, h7⟩, cr6, hf⟩ := Option.bind_eq_some_iff.mp hf
      try dsimp only at hf
      refine And.intro hg4 (And.intro (Nat.le_of_ble_eq_true rfl) (And.intro (Nat.le_of_ble_eq_true rfl) (Exists.intro (some (.int r6)) (Exists.intro _ (And.intro (l_230 cr6) (?_))))))
      refine And.intro (fun (hc10 : r6 = ((-1))) => ?_) (fun (hc10 : ¬ (r6 = ((-1)))) => ?_)
      · rw [if_pos hc10] at hf
        refine hG.1 3 41 kb_231_41 _ _ _ rfl ?_
        refine hG.1 5 51 kb_231_51 _ _ _ rfl ?_
        cases hf
        exact And.intro (fun z_ => absurd z_ (by decide)) (And.intro rfl rfl)
      · rw [if_neg hc10] at hf
        refine And.intro (fun (hc9 : v3 = 0) => ?_) (fun (hc9 : ¬ (v3 = 0)) => ?_)
        · rw [if_pos hc9] at hf
          refine hG.1 4 46 kb_231_46 _ _ _ rfl ?_
          obtain ⟨r8, cr8, hf⟩ := Option.bind_eq_some_iff.mp hf
          refine And.intro (Nat.le_of_ble_eq_true rfl) (And.intro (Nat.le_of_ble_eq_true rfl) (And.intro (Nat.le_of_ble_eq_true rfl) (Exists.intro (some (.int r8)) (Exists.intro _ (And.intro (l_172 cr8) (?_))))))
          refine hG.1 5 51 kb_231_51 _ _ _ rfl ?_
          cases hf
          exact And.intro (fun z_ => absurd z_ (by decide)) (And.intro rfl rfl)
        · rw [if_neg hc9] at hf
          refine hG.1 3 41 kb_231_41 _ _ _ rfl ?_
          refine hG.1 5 51 kb_231_51 _ _ _ rfl ?_
          cases hf
          exact And.intro (fun z_ => absurd z_ (by decide)) (And.intro rfl rfl)
    · rw [if_neg hc11] at hf
      refine hG.1 1 21 kb_231_21 _ _ _ rfl ?_
      cases hf
      exact And.intro (fun z_ => absurd z_ (by decide)) (And.intro rfl rfl)
def f_239_122 (N : Nat) (h : pb_HP) (v0 : Nat) (v1 : Int32) (v2 : Int32) (v3 : Int32) (v4 : Int32) (v5 : Int32) (v6 : Int32) (s0 : Int32) (s1 : Int32) (s2 : Int32) (s3 : Nat) : Option ((Int32 × Int32 × pb_HP) ⊕ ((Int32 × pb_HP) ⊕ (pb_HP))) :=
  if pb_ar h s3 12 s2 then (some (.inl ((v5, v6 + 1, pb_pI h s3 s2.toNatClampNeg (s1 ||| s0))))) else none
def f_239_99 (N : Nat) (h : pb_HP) (v0 : Nat) (v1 : Int32) (v2 : Int32) (v3 : Int32) (v4 : Int32) (v5 : Int32) (v6 : Int32) (v7 : Int32) (v8 : Int32) : Option ((Int32 × Int32 × pb_HP) ⊕ ((Int32 × pb_HP) ⊕ (pb_HP))) :=
  if pb_is h v0 11 then ((pb_R h v0 30).bind fun q10 => (if pb_ar h q10 12 v8 then (if 6 ≤ v7 then (f_239_122 N h v0 v1 v2 v3 v4 v5 v6 0 (pb_I h q10 v8.toNatClampNeg) v8 q10) else (f_239_122 N h v0 v1 v2 v3 v4 v5 v6 ((1 : Int32) <<< (v7 &&& 31)) (pb_I h q10 v8.toNatClampNeg) v8 q10)) else none)) else none
def f_239_72 (N : Nat) (h : pb_HP) (v0 : Nat) (v1 : Int32) (v2 : Int32) (v3 : Int32) (v4 : Int32) (v5 : Int32) (v6 : Int32) (v7 : Int32) (s0 : Int32) : Option ((Int32 × Int32 × pb_HP) ⊕ ((Int32 × pb_HP) ⊕ (pb_HP))) :=
  if 6 ≤ v7 then (f_239_99 N h v0 v1 v2 v3 v4 v5 v6 v7 s0) else (if pb_is h v0 11 then ((pb_R h v0 30).bind fun q15 => (if pb_ar h q15 12 s0 then ((f_169 (pb_I h q15 s0.toNatClampNeg) v7).bind fun r17 => (if r17 = 0 then (f_239_99 N h v0 v1 v2 v3 v4 v5 v6 v7 s0) else (some (.inr (.inl (((-99), h))))))) else none)) else none)
def f_239_37s (N : Nat) (v0 : Nat) (v1 : Int32) (v2 : Int32) (v3 : Int32) (v4 : Int32) (s : Int32 × Int32 × pb_HP) : Option ((Int32 × Int32 × pb_HP) ⊕ ((Int32 × pb_HP) ⊕ (pb_HP))) :=
  if v3 ≤ s.2.1 then (some (.inr (.inr s.2.2))) else (if ¬ (s.1 / 7) = 0 then (if ¬ (s.2.1 - s.2.1 / 2 * 2) = 0 then (f_239_72 N s.2.2 v0 v1 v2 v3 v4 (s.1 / 7) s.2.1 ((v4 / (s.1 / 7)) - (v4 / (s.1 / 7)) / 7 * 7) v2) else (f_239_72 N s.2.2 v0 v1 v2 v3 v4 (s.1 / 7) s.2.1 ((v4 / (s.1 / 7)) - (v4 / (s.1 / 7)) / 7 * 7) v1)) else none)
/-- PointedBenchModel.endOf -/
def f_239 (N : Nat) (h : pb_HP) (v0 : Nat) (v1 : Int32) (v2 : Int32) (v3 : Int32) (v4 : Int32) : Option (Int32 × pb_HP) :=
  if pb_is h v0 11 then ((pb_R h v0 30).bind fun q2 => ((f_197 h v0 (8 + v1)).bind fun r3 => (if pb_ar h q2 12 v1 then ((f_197 (pb_pI h q2 v1.toNatClampNeg r3) v0 (8 + v2)).bind fun r5 => (if pb_ar h q2 12 v2 then ((f_238 N v3).bind fun r7 => ((pb_wl (f_239_37s N v0 v1 v2 v3 v4) N ((r7, 0, pb_pI (pb_pI h q2 v1.toNatClampNeg r3) q2 v2.toNatClampNeg r5))).bind fun e22 => (match e22 with | .inl q24 => some q24 | .inr x23 => if pb_is x23 v0 11 then ((f_210 N x23 v0).bind fun (r26, h27) => (if ¬ r26 = v1 then (if ¬ r26 = v2 then (some ((0, h27))) else (some (((-1), h27)))) else (some ((1, h27))))) else none))) else none)) else none))) else none
set_option maxRecDepth 4000 in
theorem l_239 {xs : List Int32} {d : Nat} {N : Nat} {h : pb_HP} {v0 : Nat} {v1 : Int32} {v2 : Int32} {v3 : Int32} {v4 : Int32} {r : Int32} {hE : pb_HP} (hf : f_239 N h v0 v1 v2 v3 v4 = some ((r, hE))) : pb_AR xs (d + 7) 239 h [.ref v0, .int v1, .int v2, .int v3, .int v4] (some (.int r)) hE := by
  intro G hG
  have hc_ : pb_CODE 239 = kc_239 := rfl
  rw [hc_] at hG
  have hj_122 : ∀ (h : pb_HP) (v0 : Nat) (v1 : Int32) (v2 : Int32) (v3 : Int32) (v4 : Int32) (v5 : Int32) (v6 : Int32) (s0 : Int32) (s1 : Int32) (s2 : Int32) (s3 : Nat) x, f_239_122 N h v0 v1 v2 v3 v4 v5 v6 s0 s1 s2 s3 = some x → pb_kk (fun (s_ : Int32 × Int32 × pb_HP) => G 37 [(0, .ref v0), (1, .int v1), (2, .int v2), (3, .int v3), (4, .int v4), (5, .int s_.1), (6, .int s_.2.1)] [] s_.2.2) (fun (e_ : (Int32 × pb_HP) ⊕ (pb_HP)) => pb_kk (fun (q_ : Int32 × pb_HP) => q_ = (r, hE)) (fun (x_ : pb_HP) => G 130 [(0, .ref v0), (1, .int v1), (2, .int v2)] [] x_) e_) x → G 122 [(0, .ref v0), (1, .int v1), (2, .int v2), (3, .int v3), (4, .int v4), (5, .int v5), (6, .int v6)] [.int s0, .int s1, .int s2, .ref s3] h := by
    intro h v0 v1 v2 v3 v4 v5 v6 s0 s1 s2 s3 x hf hk
    unfold f_239_122 at hf
    refine hG.1 6 122 kb_239_122 _ _ _ rfl ?_
    obtain ⟨hg12, hf⟩ := pb_gd hf
    refine And.intro hg12 (?_)
    cases hf
    exact hk
  have hj_99 : ∀ (h : pb_HP) (v0 : Nat) (v1 : Int32) (v2 : Int32) (v3 : Int32) (v4 : Int32) (v5 : Int32) (v6 : Int32) (v7 : Int32) (v8 : Int32) x, f_239_99 N h v0 v1 v2 v3 v4 v5 v6 v7 v8 = some x → pb_kk (fun (s_ : Int32 × Int32 × pb_HP) => G 37 [(0, .ref v0), (1, .int v1), (2, .int v2), (3, .int v3), (4, .int v4), (5, .int s_.1), (6, .int s_.2.1)] [] s_.2.2) (fun (e_ : (Int32 × pb_HP) ⊕ (pb_HP)) => pb_kk (fun (q_ : Int32 × pb_HP) => q_ = (r, hE)) (fun (x_ : pb_HP) => G 130 [(0, .ref v0), (1, .int v1), (2, .int v2)] [] x_) e_) x → G 99 [(0, .ref v0), (1, .int v1), (2, .int v2), (3, .int v3), (4, .int v4), (5, .int v5), (6, .int v6), (7, .int v7), (8, .int v8)] [] h := by
    intro h v0 v1 v2 v3 v4 v5 v6 v7 v8 x hf hk
    unfold f_239_99 at hf
    refine hG.1 4 99 kb_239_99 _ _ _ rfl ?_
    obtain ⟨hg9, hf⟩ := pb_gd hf
    obtain ⟨q10, eq10, hf⟩ := Option.bind_eq_some_iff.mp hf
    obtain ⟨hg11, hf⟩ := pb_gd hf
    refine And.intro hg9 (Exists.intro q10 (And.intro eq10 (And.intro hg11 (?_))))
    refine And.intro (fun (hc13 : 6 ≤ v7) => ?_) (fun (hc13 : ¬ (6 ≤ v7)) => ?_)
    · rw [if_pos hc13] at hf
      refine hG.1 5 121 kb_239_121 _ _ _ rfl ?_
      refine hG.2 122 _ [0, 1, 2, 3, 4, 5, 6] _ _ _ rfl ?_
      exact hj_122 _ _ _ _ _ _ _ _ _ _ _ _ _ hf hk
    · rw [if_neg hc13] at hf
      refine hG.2 122 _ [0, 1, 2, 3, 4, 5, 6] _ _ _ rfl ?_
      exact hj_122 _ _ _ _ _ _ _ _ _ _ _ _ _ hf hk
  have hj_72 : ∀ (h : pb_HP) (v0 : Nat) (v1 : Int32) (v2 : Int32) (v3 : Int32) (v4 : Int32) (v5 : Int32) (v6 : Int32) (v7 : Int32) (s0 : Int32) x, f_239_72 N h v0 v1 v2 v3 v4 v5 v6 v7 s0 = some x → pb_kk (fun (s_ : Int32 × Int32 × pb_HP) => G 37 [(0, .ref v0), (1, .int v1), (2, .int v2), (3, .int v3), (4, .int v4), (5, .int s_.1), (6, .int s_.2.1)] [] s_.2.2) (fun (e_ : (Int32 × pb_HP) ⊕ (pb_HP)) => pb_kk (fun (q_ : Int32 × pb_HP) => q_ = (r, hE)) (fun (x_ : pb_HP) => G 130 [(0, .ref v0), (1, .int v1), (2, .int v2)] [] x_) e_) x → G 72 [(0, .ref v0), (1, .int v1), (2, .int v2), (3, .int v3), (4, .int v4), (5, .int v5), (6, .int v6), (7, .int v7)] [.int s0] h := by
    intro h v0 v1 v2 v3 v4 v5 v6 v7 s0 x hf hk
    unfold f_239_72 at hf
    refine hG.1 3 72 kb_239_72 _ _ _ rfl ?_
    refine And.intro (fun (hc19 : 6 ≤ v7) => ?_) (fun (hc19 : ¬ (6 ≤ v7)) => ?_)
    · rw [if_pos hc19] at hf
      exact hj_99 _ _ _ _ _ _ _ _ _ _ _ hf hk
    · rw [if_neg hc19] at hf
      obtain ⟨hg14, hf⟩ := pb_gd hf
      obtain ⟨q15, eq15, hf⟩ := Option.bind_eq_some_iff.mp hf
      obtain ⟨hg16, hf⟩ := pb_gd hf
      refine And.intro hg14 (Exists.intro q15 (And.intro eq15 (And.intro hg16 (?_))))
      obtain ⟨r17, cr17, hf⟩ := Option.bind_eq_some_iff.mp hf
      refine And.intro (Nat.le_of_ble_eq_true rfl) (And.intro (Nat.le_of_ble_eq_true rfl) (And.intro (Nat.le_of_ble_eq_true rfl) (Exists.intro (some (.int r17)) (Exists.intro _ (And.intro (l_169 cr17) (?_))))))
      refine And.intro (fun (hc18 : r17 = 0) => ?_) (fun (hc18 : ¬ (r17 = 0)) => ?_)
      · rw [if_pos hc18] at hf
        exact hj_99 _ _ _ _ _ _ _ _ _ _ _ hf hk
      · rw [if_neg hc18] at hf
        cases hf
        cases hk
        exact And.intro (fun z_ => absurd z_ (by decide)) (And.intro rfl rfl)
  have hl_37 : ∀ (v0 : Nat) (v1 : Int32) (v2 : Int32) (v3 : Int32) (v4 : Int32) (n_ : Nat) (s : Int32 × Int32 × pb_HP) (e : (Int32 × pb_HP) ⊕ (pb_HP)), pb_wl (f_239_37s N v0 v1 v2 v3 v4) n_ s = some e → pb_kk (fun (q_ : Int32 × pb_HP) => q_ = (r, hE)) (fun (x_ : pb_HP) => G 130 [(0, .ref v0), (1, .int v1), (2, .int v2)] [] x_) e → G 37 [(0, .ref v0), (1, .int v1), (2, .int v2), (3, .int v3), (4, .int v4), (5, .int s.1), (6, .int s.2.1)] [] s.2.2 := by
    intro v0 v1 v2 v3 v4
    refine pb_wl_ind (I := fun (s : Int32 × Int32 × pb_HP) => G 37 [(0, .ref v0), (1, .int v1), (2, .int v2), (3, .int v3), (4, .int v4), (5, .int s.1), (6, .int s.2.1)] [] s.2.2) (K := fun (e : (Int32 × pb_HP) ⊕ (pb_HP)) => pb_kk (fun (q_ : Int32 × pb_HP) => q_ = (r, hE)) (fun (x_ : pb_HP) => G 130 [(0, .ref v0), (1, .int v1), (2, .int v2)] [] x_) e) (fun s x hf hk => ?_)
    unfold f_239_37s at hf
    refine hG.1 1 37 kb_239_37 _ _ _ rfl ?_
    refine And.intro (fun (hc21 : v3 ≤ s.2.1) => ?_) (fun (hc21 : ¬ (v3 ≤ s.2.1)) => ?_)
    · rw [if_pos hc21] at hf
      cases hf
      exact hG.2 130 _ [0, 1, 2] _ _ _ rfl hk
    · rw [if_neg hc21] at hf
      obtain ⟨hg8, hf⟩ := pb_gd hf
      refine And.intro (by decide) (And.intro hg8 (And.intro (by decide) (And.intro (by decide) (?_))))
      refine And.intro (fun (hc20 : ¬ (s.2.1 - s.2.1 / 2 * 2) = 0) => ?_) (fun (hc20 : ¬ (¬ (s.2.1 - s.2.1 / 2 * 2) = 0)) => ?_)
      · rw [if_pos hc20] at hf
        refine hG.1 2 71 kb_239_71 _ _ _ rfl ?_
        exact hj_72 _ _ _ _ _ _ _ _ _ _ _ hf hk
      · rw [if_neg hc20] at hf
        exact hj_72 _ _ _ _ _ _ _ _ _ _ _ hf hk
  unfold f_239 at hf
  refine hG.1 0 0 kb_239_0 _ _ _ rfl ?_
  obtain ⟨hg1, hf⟩ := pb_gd hf
  obtain ⟨q2, eq2, hf⟩ := Option.bind_eq_some_iff.mp hf
  refine And.intro hg1 (Exists.intro q2 (And.intro eq2 (?_)))
  obtain ⟨r3, cr3, hf⟩ := Option.bind_eq_some_iff.mp hf
  refine And.intro hg1 (And.intro (Nat.le_of_ble_eq_true rfl) (And.intro (Nat.le_of_ble_eq_true rfl) (Exists.intro (some (.int r3)) (Exists.intro _ (And.intro (l_197 cr3) (?_))))))
  obtain ⟨hg4, hf⟩ := pb_gd hf
  refine And.intro hg4 (And.intro hg1 (Exists.intro q2 (And.intro eq2 (?_))))
  obtain ⟨r5, cr5, hf⟩ := Option.bind_eq_some_iff.mp hf
  refine And.intro hg1 (And.intro (Nat.le_of_ble_eq_true rfl) (And.intro (Nat.le_of_ble_eq_true rfl) (Exists.intro (some (.int r5)) (Exists.intro _ (And.intro (l_197 cr5) (?_))))))
  obtain ⟨hg6, hf⟩ := pb_gd hf
  refine And.intro hg6 (?_)
  obtain ⟨r7, cr7, hf⟩ := Option.bind_eq_some_iff.mp hf
  refine And.intro (Nat.le_of_ble_eq_true rfl) (And.intro (Nat.le_of_ble_eq_true rfl) (And.intro (Nat.le_of_ble_eq_true rfl) (Exists.intro (some (.int r7)) (Exists.intro _ (And.intro (l_238 cr7) (?_))))))
  obtain ⟨e22, he_e22, hf⟩ := Option.bind_eq_some_iff.mp hf
  refine hl_37 _ _ _ _ _ _ _ _ he_e22 ?_
  cases e22 with
  | inl q24 =>
    exact Option.some.inj hf
  | inr x23 =>
    try dsimp only at hf
    refine hG.1 7 130 kb_239_130 _ _ _ rfl ?_
    obtain ⟨hg25, hf⟩ := pb_gd hf
    obtain ⟨⟨r26, h27⟩, cr26, hf⟩ := Option.bind_eq_some_iff.mp hf
    try dsimp only at hf
    refine And.intro hg25 (And.intro (Nat.le_of_ble_eq_true rfl) (And.intro (Nat.le_of_ble_eq_true rfl) (Exists.intro (some (.int r26)) (Exists.intro _ (And.intro (l_210 cr26) (?_))))))
    refine And.intro (fun (hc29 : ¬ r26 = v1) => ?_) (fun (hc29 : ¬ (¬ r26 = v1)) => ?_)
    · rw [if_pos hc29] at hf
      refine hG.1 8 146 kb_239_146 _ _ _ rfl ?_
      refine And.intro (fun (hc28 : ¬ r26 = v2) => ?_) (fun (hc28 : ¬ (¬ r26 = v2)) => ?_)
      · rw [if_pos hc28] at hf
        refine hG.1 9 156 kb_239_156 _ _ _ rfl ?_
        refine hG.1 10 157 kb_239_157 _ _ _ rfl ?_
        cases hf
        exact And.intro (fun z_ => absurd z_ (by decide)) (And.intro rfl rfl)
      · rw [if_neg hc28] at hf
        refine hG.1 10 157 kb_239_157 _ _ _ rfl ?_
        cases hf
        exact And.intro (fun z_ => absurd z_ (by decide)) (And.intro rfl rfl)
    · rw [if_neg hc29] at hf
      refine hG.1 10 157 kb_239_157 _ _ _ rfl ?_
      cases hf
      exact And.intro (fun z_ => absurd z_ (by decide)) (And.intro rfl rfl)
def f_272_65s (N : Nat) (v0 : Nat) (v2 : Int32) (v3 : Int32) (v4 : Int32) (v5 : Int32) (v6 : Int32) (s : Int32 × pb_HP) : Option ((Int32 × pb_HP) ⊕ ((Int32 × pb_HP) ⊕ (pb_HP))) :=
  if 6 ≤ s.1 then (some (.inr (.inr s.2))) else ((f_169 (v4 &&& (v5 ^^^ ((-1)))) v6).bind fun r10 => (if r10 = 0 then (some (.inl ((s.1 + 1, s.2)))) else ((f_169 (v5 &&& (v4 ^^^ ((-1)))) s.1).bind fun r11 => (if r11 = 0 then (some (.inl ((s.1 + 1, s.2)))) else (if pb_is s.2 v0 11 then ((pb_R s.2 v0 30).bind fun q13 => (if pb_ar s.2 q13 12 v2 then (if pb_ar s.2 q13 12 v3 then (pb_hb (pb_pI (pb_pI s.2 q13 v2.toNatClampNeg ((v4 &&& (((1 : Int32) <<< (v6 &&& 31)) ^^^ ((-1)))) ||| ((1 : Int32) <<< (s.1 &&& 31)))) q13 v3.toNatClampNeg ((v5 &&& (((1 : Int32) <<< (s.1 &&& 31)) ^^^ ((-1)))) ||| ((1 : Int32) <<< (v6 &&& 31)))) fun h16 => ((f_210 N h16 v0).bind fun (r21, h22) => (if ¬ r21 = v2 then (some (.inl ((s.1 + 1, h22)))) else (some (.inr (.inl (((10 * v6) + s.1, h22)))))))) else none) else none)) else none)))))
def f_272_55s (N : Nat) (v0 : Nat) (v2 : Int32) (v3 : Int32) (v4 : Int32) (v5 : Int32) (s : Int32 × pb_HP) : Option ((Int32 × pb_HP) ⊕ ((Int32 × pb_HP) ⊕ (pb_HP))) :=
  if 6 ≤ s.1 then (some (.inr (.inr s.2))) else ((pb_wl (f_272_65s N v0 v2 v3 v4 v5 s.1) N ((0, s.2))).bind fun e27 => (match e27 with | .inl q29 => some (.inr (.inl q29)) | .inr x28 => some (.inl ((s.1 + 1, x28)))))
/-- PointedBenchModel.trade -/
def f_272 (N : Nat) (h : pb_HP) (v0 : Nat) (v1 : Int32) (v2 : Int32) (v3 : Int32) : Option (Int32 × pb_HP) :=
  if pb_is h v0 11 then ((f_198 N (pb_pI h v0 0 0) v0 v1).bind fun (r2, h3) => (if r2 = 0 then (some (((-1), h3))) else (if pb_is h3 v0 11 then ((f_200 h3 v0 v2).bind fun r5 => (if r5 = 0 then (some (((-1), h3))) else ((f_200 h3 v0 v3).bind fun r6 => (if r6 = 0 then (some (((-1), h3))) else (if ¬ v2 = v3 then ((pb_R h3 v0 30).bind fun q7 => (if pb_ar h3 q7 12 v2 then (if pb_ar h3 q7 12 v3 then ((pb_wl (f_272_55s N v0 v2 v3 (pb_I h3 q7 v2.toNatClampNeg) (pb_I h3 q7 v3.toNatClampNeg)) N ((0, h3))).bind fun e31 => (match e31 with | .inl q33 => some q33 | .inr x32 => some (((-1), x32)))) else none) else none)) else (some (((-1), h3)))))))) else none))) else none
set_option maxRecDepth 4000 in
theorem l_272 {xs : List Int32} {d : Nat} {N : Nat} {h : pb_HP} {v0 : Nat} {v1 : Int32} {v2 : Int32} {v3 : Int32} {r : Int32} {hE : pb_HP} (hf : f_272 N h v0 v1 v2 v3 = some ((r, hE))) : pb_AR xs (d + 7) 272 h [.ref v0, .int v1, .int v2, .int v3] (some (.int r)) hE := by
  intro G hG
  have hc_ : pb_CODE 272 = kc_272 := rfl
  rw [hc_] at hG
  have hl_65 : ∀ (v0 : Nat) (v2 : Int32) (v3 : Int32) (v4 : Int32) (v5 : Int32) (v6 : Int32) (n_ : Nat) (s : Int32 × pb_HP) (e : (Int32 × pb_HP) ⊕ (pb_HP)), pb_wl (f_272_65s N v0 v2 v3 v4 v5 v6) n_ s = some e → pb_kk (fun (q_ : Int32 × pb_HP) => q_ = (r, hE)) (fun (x_ : pb_HP) => G 165 [(0, .ref v0), (2, .int v2), (3, .int v3), (4, .int v4), (5, .int v5), (6, .int v6)] [] x_) e → G 65 [(0, .ref v0), (2, .int v2), (3, .int v3), (4, .int v4), (5, .int v5), (6, .int v6), (7, .int s.1)] [] s.2 := by
    intro v0 v2 v3 v4 v5 v6
    refine pb_wl_ind (I := fun (s : Int32 × pb_HP) => G 65 [(0, .ref v0), (2, .int v2), (3, .int v3), (4, .int v4), (5, .int v5), (6, .int v6), (7, .int s.1)] [] s.2) (K := fun (e : (Int32 × pb_HP) ⊕ (pb_HP)) => pb_kk (fun (q_ : Int32 × pb_HP) => q_ = (r, hE)) (fun (x_ : pb_HP) => G 165 [(0, .ref v0), (2, .int v2), (3, .int v3), (4, .int v4), (5, .int v5), (6, .int v6)] [] x_) e) (fun s x hf hk => ?_)
    unfold f_272_65s at hf
    refine hG.1 4 65 kb_272_65 _ _ _ rfl ?_
    refine And.intro (fun (hc26 : 6 ≤ s.1) => ?_) (fun (hc26 : ¬ (6 ≤ s.1)) => ?_)
    · rw [if_pos hc26] at hf
      cases hf
      exact hG.2 165 _ [0, 1, 2, 3, 4, 5] _ _ _ rfl hk
    · rw [if_neg hc26] at hf
      obtain ⟨r10, cr10, hf⟩ := Option.bind_eq_some_iff.mp hf
      refine And.intro (Nat.le_of_ble_eq_true rfl) (And.intro (Nat.le_of_ble_eq_true rfl) (And.intro (Nat.le_of_ble_eq_true rfl) (Exists.intro (some (.int r10)) (Exists.intro _ (And.intro (l_169 cr10) (?_))))))
      refine And.intro (fun (hc25 : r10 = 0) => ?_) (fun (hc25 : ¬ (r10 = 0)) => ?_)
      · rw [if_pos hc25] at hf
        refine hG.1 5 159 kb_272_159 _ _ _ rfl ?_
        cases hf
        exact hk
      · rw [if_neg hc25] at hf
        obtain ⟨r11, cr11, hf⟩ := Option.bind_eq_some_iff.mp hf
        refine And.intro (Nat.le_of_ble_eq_true rfl) (And.intro (Nat.le_of_ble_eq_true rfl) (And.intro (Nat.le_of_ble_eq_true rfl) (Exists.intro (some (.int r11)) (Exists.intro _ (And.intro (l_169 cr11) (?_))))))
        refine And.intro (fun (hc24 : r11 = 0) => ?_) (fun (hc24 : ¬ (r11 = 0)) => ?_)
        · rw [if_pos hc24] at hf
          refine hG.1 5 159 kb_272_159 _ _ _ rfl ?_
          cases hf
          exact hk
        · rw [if_neg hc24] at hf
          obtain ⟨hg12, hf⟩ := pb_gd hf
          obtain ⟨q13, eq13, hf⟩ := Option.bind_eq_some_iff.mp hf
          obtain ⟨hg14, hf⟩ := pb_gd hf
          obtain ⟨hg15, hf⟩ := pb_gd hf
          refine And.intro hg12 (Exists.intro q13 (And.intro eq13 (And.intro hg14 (And.intro hg12 (Exists.intro q13 (And.intro eq13 (And.intro hg15 (?_))))))))
          refine pb_hset (E := pb_pI (pb_pI s.2 q13 v2.toNatClampNeg ((v4 &&& (((1 : Int32) <<< (v6 &&& 31)) ^^^ ((-1)))) ||| ((1 : Int32) <<< (s.1 &&& 31)))) q13 v3.toNatClampNeg ((v5 &&& (((1 : Int32) <<< (s.1 &&& 31)) ^^^ ((-1)))) ||| ((1 : Int32) <<< (v6 &&& 31)))) rfl (fun h16 eh16 => ?_)
          have hf := pb_hbd hf eh16
          have hg17 : pb_is h16 v0 11 := pb_isx eh16 hg12
          have hg18 : pb_ar h16 q13 12 v2 := pb_arx eh16 hg14
          have hg19 : pb_ar h16 q13 12 v3 := pb_arx eh16 hg15
          have eq20 : pb_R h16 v0 30 = some q13 := pb_Rx eh16 eq13
          obtain ⟨⟨r21, h22⟩, cr21, hf⟩ := Option.bind_eq_some_iff.mp hf
          try dsimp only at hf
          refine And.intro hg17 (And.intro (Nat.le_of_ble_eq_true rfl) (And.intro (Nat.le_of_ble_eq_true rfl) (Exists.intro (some (.int r21)) (Exists.intro _ (And.intro (l_210 cr21) (?_))))))
          refine And.intro (fun (hc23 : ¬ r21 = v2) => ?_) (fun (hc23 : ¬ (¬ r21 = v2)) => ?_)
          · rw [if_pos hc23] at hf
            refine hG.1 5 159 kb_272_159 _ _ _ rfl ?_
            cases hf
            exact hk
          · rw [if_neg hc23] at hf
            cases hf
            cases hk
            exact And.intro (fun z_ => absurd z_ (by decide)) (And.intro rfl rfl)
  have hl_55 : ∀ (v0 : Nat) (v2 : Int32) (v3 : Int32) (v4 : Int32) (v5 : Int32) (n_ : Nat) (s : Int32 × pb_HP) (e : (Int32 × pb_HP) ⊕ (pb_HP)), pb_wl (f_272_55s N v0 v2 v3 v4 v5) n_ s = some e → pb_kk (fun (q_ : Int32 × pb_HP) => q_ = (r, hE)) (fun (x_ : pb_HP) => G 171 [] [] x_) e → G 55 [(0, .ref v0), (2, .int v2), (3, .int v3), (4, .int v4), (5, .int v5), (6, .int s.1)] [] s.2 := by
    intro v0 v2 v3 v4 v5
    refine pb_wl_ind (I := fun (s : Int32 × pb_HP) => G 55 [(0, .ref v0), (2, .int v2), (3, .int v3), (4, .int v4), (5, .int v5), (6, .int s.1)] [] s.2) (K := fun (e : (Int32 × pb_HP) ⊕ (pb_HP)) => pb_kk (fun (q_ : Int32 × pb_HP) => q_ = (r, hE)) (fun (x_ : pb_HP) => G 171 [] [] x_) e) (fun s x hf hk => ?_)
    unfold f_272_55s at hf
    refine hG.1 3 55 kb_272_55 _ _ _ rfl ?_
    refine And.intro (fun (hc30 : 6 ≤ s.1) => ?_) (fun (hc30 : ¬ (6 ≤ s.1)) => ?_)
    · rw [if_pos hc30] at hf
      cases hf
      exact hG.2 171 _ [] _ _ _ rfl hk
    · rw [if_neg hc30] at hf
      obtain ⟨e27, he_e27, hf⟩ := Option.bind_eq_some_iff.mp hf
      refine hl_65 _ _ _ _ _ _ _ _ _ he_e27 ?_
      cases e27 with
      | inl q29 =>
        cases hf
        exact hk
      | inr x28 =>
        try dsimp only at hf
        refine hG.1 6 165 kb_272_165 _ _ _ rfl ?_
        cases hf
        exact hk
  unfold f_272 at hf
  refine hG.1 0 0 kb_272_0 _ _ _ rfl ?_
  obtain ⟨hg1, hf⟩ := pb_gd hf
  refine And.intro hg1 (?_)
  obtain ⟨⟨r2, h3⟩, cr2, hf⟩ := Option.bind_eq_some_iff.mp hf
  try dsimp only at hf
  refine And.intro hg1 (And.intro (Nat.le_of_ble_eq_true rfl) (And.intro (Nat.le_of_ble_eq_true rfl) (Exists.intro (some (.int r2)) (Exists.intro _ (And.intro (l_198 cr2) (?_))))))
  refine And.intro (fun (hc37 : r2 = 0) => ?_) (fun (hc37 : ¬ (r2 = 0)) => ?_)
  · rw [if_pos hc37] at hf
    refine hG.1 1 34 kb_272_34 _ _ _ rfl ?_
    cases hf
    exact And.intro (fun z_ => absurd z_ (by decide)) (And.intro rfl rfl)
  · rw [if_neg hc37] at hf
    obtain ⟨hg4, hf⟩ := pb_gd hf
    obtain ⟨r5, cr5, hf⟩ := Option.bind_eq_some_iff.mp hf
    refine And.intro hg4 (And.intro (Nat.le_of_ble_eq_true rfl) (And.intro (Nat.le_of_ble_eq_true rfl) (Exists.intro (some (.int r5)) (Exists.intro _ (And.intro (l_200 cr5) (?_))))))
    refine And.intro (fun (hc36 : r5 = 0) => ?_) (fun (hc36 : ¬ (r5 = 0)) => ?_)
    · rw [if_pos hc36] at hf
      refine hG.1 1 34 kb_272_34 _ _ _ rfl ?_
      cases hf
      exact And.intro (fun z_ => absurd z_ (by decide)) (And.intro rfl rfl)
    · rw [if_neg hc36] at hf
      obtain ⟨r6, cr6, hf⟩ := Option.bind_eq_some_iff.mp hf
      refine And.intro hg4 (And.intro (Nat.le_of_ble_eq_true rfl) (And.intro (Nat.le_of_ble_eq_true rfl) (Exists.intro (some (.int r6)) (Exists.intro _ (And.intro (l_200 cr6) (?_))))))
      refine And.intro (fun (hc35 : r6 = 0) => ?_) (fun (hc35 : ¬ (r6 = 0)) => ?_)
      · rw [if_pos hc35] at hf
        refine hG.1 1 34 kb_272_34 _ _ _ rfl ?_
        cases hf
        exact And.intro (fun z_ => absurd z_ (by decide)) (And.intro rfl rfl)
      · rw [if_neg hc35] at hf
        refine And.intro (fun (hc34 : ¬ v2 = v3) => ?_) (fun (hc34 : ¬ (¬ v2 = v3)) => ?_)
        · rw [if_pos hc34] at hf
          refine hG.1 2 36 kb_272_36 _ _ _ rfl ?_
          obtain ⟨q7, eq7, hf⟩ := Option.bind_eq_some_iff.mp hf
          obtain ⟨hg8, hf⟩ := pb_gd hf
          obtain ⟨hg9, hf⟩ := pb_gd hf
          refine And.intro hg4 (Exists.intro q7 (And.intro eq7 (And.intro hg8 (And.intro hg4 (Exists.intro q7 (And.intro eq7 (And.intro hg9 (?_))))))))
          obtain ⟨e31, he_e31, hf⟩ := Option.bind_eq_some_iff.mp hf
          refine hG.2 55 _ [0, 2, 3, 4, 5, 6] _ _ _ rfl ?_
          refine hl_55 _ _ _ _ _ _ _ _ he_e31 ?_
          cases e31 with
          | inl q33 =>
            exact Option.some.inj hf
          | inr x32 =>
            try dsimp only at hf
            refine hG.1 7 171 kb_272_171 _ _ _ rfl ?_
            cases hf
            exact And.intro (fun z_ => absurd z_ (by decide)) (And.intro rfl rfl)
        · rw [if_neg hc34] at hf
          refine hG.1 1 34 kb_272_34 _ _ _ rfl ?_
          cases hf
          exact And.intro (fun z_ => absurd z_ (by decide)) (And.intro rfl rfl)
def f_285_39s (N : Nat) (v0 : Nat) (v2 : Int32) (v3 : Int32) (s : Int32 × pb_HP) : Option ((Int32 × pb_HP) ⊕ ((Int32 × pb_HP) ⊕ (pb_HP))) :=
  if pb_is s.2 v0 11 then (if (pb_I s.2 v0 24) ≤ s.1 then (some (.inr (.inr s.2))) else (if 6 ≤ v3 then (some (.inr (.inr s.2))) else ((pb_R s.2 v0 35).bind fun q10 => (if pb_ar s.2 q10 12 v2 then ((f_209 N (pb_pI s.2 q10 v2.toNatClampNeg s.1) v0 63).bind fun r12 => (if 6 ≤ r12 then (some (.inl ((s.1 + 1, pb_pI s.2 q10 v2.toNatClampNeg s.1)))) else ((f_259 N (pb_pI s.2 q10 v2.toNatClampNeg s.1) v0 v2 r12 v3).bind fun r13 => (if r13 = 0 then (some (.inl ((s.1 + 1, pb_pI s.2 q10 v2.toNatClampNeg s.1)))) else (some (.inr (.inl ((s.1, pb_pI s.2 q10 v2.toNatClampNeg s.1))))))))) else none)))) else none
/-- PointedBenchModel.lies -/
def f_285 (N : Nat) (h : pb_HP) (v0 : Nat) (v1 : Int32) (v2 : Int32) : Option (Int32 × pb_HP) :=
  if pb_is h v0 11 then ((f_198 N (pb_pI h v0 0 0) v0 v1).bind fun (r2, h3) => (if r2 = 0 then (some (((-1), h3))) else (if pb_is h3 v0 11 then ((f_201 h3 v0 v2).bind fun r5 => (if r5 = 0 then (some (((-1), h3))) else ((f_202 h3 v0 v2).bind fun r6 => (if ¬ r6 = 0 then ((f_210 N h3 v0).bind fun (r7, h8) => ((pb_wl (f_285_39s N v0 v2 r7) N ((0, h8))).bind fun e18 => (match e18 with | .inl q20 => some q20 | .inr x19 => some (((-1), x19))))) else (some (((-1), h3))))))) else none))) else none
set_option maxRecDepth 4000 in
theorem l_285 {xs : List Int32} {d : Nat} {N : Nat} {h : pb_HP} {v0 : Nat} {v1 : Int32} {v2 : Int32} {r : Int32} {hE : pb_HP} (hf : f_285 N h v0 v1 v2 = some ((r, hE))) : pb_AR xs (d + 7) 285 h [.ref v0, .int v1, .int v2] (some (.int r)) hE := by
  intro G hG
  have hc_ : pb_CODE 285 = kc_285 := rfl
  rw [hc_] at hG
  have hl_39 : ∀ (v0 : Nat) (v2 : Int32) (v3 : Int32) (n_ : Nat) (s : Int32 × pb_HP) (e : (Int32 × pb_HP) ⊕ (pb_HP)), pb_wl (f_285_39s N v0 v2 v3) n_ s = some e → pb_kk (fun (q_ : Int32 × pb_HP) => q_ = (r, hE)) (fun (x_ : pb_HP) => G 97 [] [] x_) e → G 39 [(0, .ref v0), (2, .int v2), (3, .int v3), (4, .int s.1)] [] s.2 := by
    intro v0 v2 v3
    refine pb_wl_ind (I := fun (s : Int32 × pb_HP) => G 39 [(0, .ref v0), (2, .int v2), (3, .int v3), (4, .int s.1)] [] s.2) (K := fun (e : (Int32 × pb_HP) ⊕ (pb_HP)) => pb_kk (fun (q_ : Int32 × pb_HP) => q_ = (r, hE)) (fun (x_ : pb_HP) => G 97 [] [] x_) e) (fun s x hf hk => ?_)
    unfold f_285_39s at hf
    refine hG.1 3 39 kb_285_39 _ _ _ rfl ?_
    obtain ⟨hg9, hf⟩ := pb_gd hf
    refine And.intro hg9 (?_)
    refine And.intro (fun (hc17 : (pb_I s.2 v0 24) ≤ s.1) => ?_) (fun (hc17 : ¬ ((pb_I s.2 v0 24) ≤ s.1)) => ?_)
    · rw [if_pos hc17] at hf
      cases hf
      exact hG.2 97 _ [] _ _ _ rfl hk
    · rw [if_neg hc17] at hf
      refine And.intro (fun (hc16 : 6 ≤ v3) => ?_) (fun (hc16 : ¬ (6 ≤ v3)) => ?_)
      · rw [if_pos hc16] at hf
        cases hf
        exact hG.2 97 _ [] _ _ _ rfl hk
      · rw [if_neg hc16] at hf
        obtain ⟨q10, eq10, hf⟩ := Option.bind_eq_some_iff.mp hf
        obtain ⟨hg11, hf⟩ := pb_gd hf
        refine And.intro hg9 (Exists.intro q10 (And.intro eq10 (And.intro hg11 (?_))))
        obtain ⟨r12, cr12, hf⟩ := Option.bind_eq_some_iff.mp hf
        refine And.intro hg9 (And.intro (Nat.le_of_ble_eq_true rfl) (And.intro (Nat.le_of_ble_eq_true rfl) (Exists.intro (some (.int r12)) (Exists.intro _ (And.intro (l_209 cr12) (?_))))))
        refine And.intro (fun (hc15 : 6 ≤ r12) => ?_) (fun (hc15 : ¬ (6 ≤ r12)) => ?_)
        · rw [if_pos hc15] at hf
          refine hG.1 4 91 kb_285_91 _ _ _ rfl ?_
          cases hf
          exact hG.2 39 _ [0, 1, 2, 3] _ _ _ rfl hk
        · rw [if_neg hc15] at hf
          obtain ⟨r13, cr13, hf⟩ := Option.bind_eq_some_iff.mp hf
          refine And.intro hg9 (And.intro (Nat.le_of_ble_eq_true rfl) (And.intro (Nat.le_of_ble_eq_true rfl) (Exists.intro (some (.int r13)) (Exists.intro _ (And.intro (l_259 cr13) (?_))))))
          refine And.intro (fun (hc14 : r13 = 0) => ?_) (fun (hc14 : ¬ (r13 = 0)) => ?_)
          · rw [if_pos hc14] at hf
            refine hG.1 4 91 kb_285_91 _ _ _ rfl ?_
            cases hf
            exact hG.2 39 _ [0, 1, 2, 3] _ _ _ rfl hk
          · rw [if_neg hc14] at hf
            cases hf
            cases hk
            exact And.intro (fun z_ => absurd z_ (by decide)) (And.intro rfl rfl)
  unfold f_285 at hf
  refine hG.1 0 0 kb_285_0 _ _ _ rfl ?_
  obtain ⟨hg1, hf⟩ := pb_gd hf
  refine And.intro hg1 (?_)
  obtain ⟨⟨r2, h3⟩, cr2, hf⟩ := Option.bind_eq_some_iff.mp hf
  try dsimp only at hf
  refine And.intro hg1 (And.intro (Nat.le_of_ble_eq_true rfl) (And.intro (Nat.le_of_ble_eq_true rfl) (Exists.intro (some (.int r2)) (Exists.intro _ (And.intro (l_198 cr2) (?_))))))
  refine And.intro (fun (hc23 : r2 = 0) => ?_) (fun (hc23 : ¬ (r2 = 0)) => ?_)
  · rw [if_pos hc23] at hf
    refine hG.1 1 29 kb_285_29 _ _ _ rfl ?_
    cases hf
    exact And.intro (fun z_ => absurd z_ (by decide)) (And.intro rfl rfl)
  · rw [if_neg hc23] at hf
    obtain ⟨hg4, hf⟩ := pb_gd hf
    obtain ⟨r5, cr5, hf⟩ := Option.bind_eq_some_iff.mp hf
    refine And.intro hg4 (And.intro (Nat.le_of_ble_eq_true rfl) (And.intro (Nat.le_of_ble_eq_true rfl) (Exists.intro (some (.int r5)) (Exists.intro _ (And.intro (l_201 cr5) (?_))))))
    refine And.intro (fun (hc22 : r5 = 0) => ?_) (fun (hc22 : ¬ (r5 = 0)) => ?_)
    · rw [if_pos hc22] at hf
      refine hG.1 1 29 kb_285_29 _ _ _ rfl ?_
      cases hf
      exact And.intro (fun z_ => absurd z_ (by decide)) (And.intro rfl rfl)
    · rw [if_neg hc22] at hf
      obtain ⟨r6, cr6, hf⟩ := Option.bind_eq_some_iff.mp hf
      refine And.intro hg4 (And.intro (Nat.le_of_ble_eq_true rfl) (And.intro (Nat.le_of_ble_eq_true rfl) (Exists.intro (some (.int r6)) (Exists.intro _ (And.intro (l_202 cr6) (?_))))))
      refine And.intro (fun (hc21 : ¬ r6 = 0) => ?_) (fun (hc21 : ¬ (¬ r6 = 0)) => ?_)
      · rw [if_pos hc21] at hf
        refine hG.1 2 31 kb_285_31 _ _ _ rfl ?_
        obtain ⟨⟨r7, h8⟩, cr7, hf⟩ := Option.bind_eq_some_iff.mp hf
        try dsimp only at hf
        refine And.intro hg4 (And.intro (Nat.le_of_ble_eq_true rfl) (And.intro (Nat.le_of_ble_eq_true rfl) (Exists.intro (some (.int r7)) (Exists.intro _ (And.intro (l_210 cr7) (?_))))))
        obtain ⟨e18, he_e18, hf⟩ := Option.bind_eq_some_iff.mp hf
        refine hG.2 39 _ [0, 2, 3, 4] _ _ _ rfl ?_
        refine hl_39 _ _ _ _ _ _ he_e18 ?_
        cases e18 with
        | inl q20 =>
          exact Option.some.inj hf
        | inr x19 =>
          try dsimp only at hf
          refine hG.1 5 97 kb_285_97 _ _ _ rfl ?_
          cases hf
          exact And.intro (fun z_ => absurd z_ (by decide)) (And.intro rfl rfl)
      · rw [if_neg hc21] at hf
        refine hG.1 1 29 kb_285_29 _ _ _ rfl ?_
        cases hf
        exact And.intro (fun z_ => absurd z_ (by decide)) (And.intro rfl rfl)
def f_293_28s (N : Nat) (v0 : Nat) (v2 : Int32) (v3 : Int32) (s : Int32 × pb_HP) : Option ((Int32 × pb_HP) ⊕ (pb_HP)) :=
  if pb_is s.2 v0 11 then (if (pb_I s.2 v0 25) ≤ s.1 then (some (.inr s.2)) else ((pb_R s.2 v0 31).bind fun q6 => (if pb_ar s.2 q6 12 s.1 then ((f_171 99 ((pb_I s.2 q6 s.1.toNatClampNeg) + v2)).bind fun r8 => ((pb_R s.2 v0 32).bind fun q9 => (if pb_ar s.2 q9 12 s.1 then ((f_170 0 ((pb_I (pb_pI s.2 q6 s.1.toNatClampNeg r8) q9 s.1.toNatClampNeg) - v2)).bind fun r11 => (some (.inl ((s.1 + 1, pb_pI (pb_pI s.2 q6 s.1.toNatClampNeg r8) q9 s.1.toNatClampNeg r11))))) else none))) else none))) else none
/-- PointedBenchModel.later -/
def f_293 (N : Nat) (h : pb_HP) (v0 : Nat) (v1 : Int32) (v2 : Int32) (v3 : Int32) : Option (Int32 × pb_HP) :=
  if pb_is h v0 11 then ((f_168 v2 0 30).bind fun r2 => (if r2 = 0 then (some (((-1), pb_pI h v0 0 0))) else ((f_198 N (pb_pI h v0 0 0) v0 v1).bind fun (r3, h4) => (if ¬ r3 = 0 then ((pb_wl (f_293_28s N v0 v2 v3) N ((0, h4))).bind fun e13 => (if v3 = 0 then (if pb_is e13 v0 11 then ((f_203 N e13 v0).bind fun r15 => (some ((r15, e13)))) else none) else (if pb_is e13 v0 11 then ((f_210 N e13 v0).bind fun (r17, h18) => (some ((r17, h18)))) else none))) else (some (((-1), h4))))))) else none
set_option maxRecDepth 4000 in
theorem l_293 {xs : List Int32} {d : Nat} {N : Nat} {h : pb_HP} {v0 : Nat} {v1 : Int32} {v2 : Int32} {v3 : Int32} {r : Int32} {hE : pb_HP} (hf : f_293 N h v0 v1 v2 v3 = some ((r, hE))) : pb_AR xs (d + 7) 293 h [.ref v0, .int v1, .int v2, .int v3] (some (.int r)) hE := by
  intro G hG
  have hc_ : pb_CODE 293 = kc_293 := rfl
  rw [hc_] at hG
  have hl_28 : ∀ (v0 : Nat) (v2 : Int32) (v3 : Int32) (n_ : Nat) (s : Int32 × pb_HP) (e : pb_HP), pb_wl (f_293_28s N v0 v2 v3) n_ s = some e → G 84 [(0, .ref v0), (3, .int v3)] [] e → G 28 [(0, .ref v0), (2, .int v2), (3, .int v3), (4, .int s.1)] [] s.2 := by
    intro v0 v2 v3
    refine pb_wl_ind (I := fun (s : Int32 × pb_HP) => G 28 [(0, .ref v0), (2, .int v2), (3, .int v3), (4, .int s.1)] [] s.2) (K := fun (e : pb_HP) => G 84 [(0, .ref v0), (3, .int v3)] [] e) (fun s x hf hk => ?_)
    unfold f_293_28s at hf
    refine hG.1 3 28 kb_293_28 _ _ _ rfl ?_
    obtain ⟨hg5, hf⟩ := pb_gd hf
    refine And.intro hg5 (?_)
    refine And.intro (fun (hc12 : (pb_I s.2 v0 25) ≤ s.1) => ?_) (fun (hc12 : ¬ ((pb_I s.2 v0 25) ≤ s.1)) => ?_)
    · rw [if_pos hc12] at hf
      cases hf
      exact hG.2 84 _ [0, 2] _ _ _ rfl hk
    · rw [if_neg hc12] at hf
      obtain ⟨q6, eq6, hf⟩ := Option.bind_eq_some_iff.mp hf
      obtain ⟨hg7, hf⟩ := pb_gd hf
      refine And.intro hg5 (Exists.intro q6 (And.intro eq6 (And.intro hg5 (Exists.intro q6 (And.intro eq6 (And.intro hg7 (?_)))))))
      obtain ⟨r8, cr8, hf⟩ := Option.bind_eq_some_iff.mp hf
      refine And.intro (Nat.le_of_ble_eq_true rfl) (And.intro (Nat.le_of_ble_eq_true rfl) (And.intro (Nat.le_of_ble_eq_true rfl) (Exists.intro (some (.int r8)) (Exists.intro _ (And.intro (l_171 cr8) (?_))))))
      obtain ⟨q9, eq9, hf⟩ := Option.bind_eq_some_iff.mp hf
      obtain ⟨hg10, hf⟩ := pb_gd hf
      refine And.intro hg7 (And.intro hg5 (Exists.intro q9 (And.intro eq9 (And.intro hg5 (Exists.intro q9 (And.intro eq9 (And.intro hg10 (?_))))))))
      obtain ⟨r11, cr11, hf⟩ := Option.bind_eq_some_iff.mp hf
      refine And.intro (Nat.le_of_ble_eq_true rfl) (And.intro (Nat.le_of_ble_eq_true rfl) (And.intro (Nat.le_of_ble_eq_true rfl) (Exists.intro (some (.int r11)) (Exists.intro _ (And.intro (l_170 cr11) (?_))))))
      refine And.intro hg10 (?_)
      cases hf
      exact hk
  unfold f_293 at hf
  refine hG.1 0 0 kb_293_0 _ _ _ rfl ?_
  obtain ⟨hg1, hf⟩ := pb_gd hf
  refine And.intro hg1 (?_)
  obtain ⟨r2, cr2, hf⟩ := Option.bind_eq_some_iff.mp hf
  refine And.intro (Nat.le_of_ble_eq_true rfl) (And.intro (Nat.le_of_ble_eq_true rfl) (And.intro (Nat.le_of_ble_eq_true rfl) (Exists.intro (some (.int r2)) (Exists.intro _ (And.intro (l_168 cr2) (?_))))))
  refine And.intro (fun (hc21 : r2 = 0) => ?_) (fun (hc21 : ¬ (r2 = 0)) => ?_)
  · rw [if_pos hc21] at hf
    refine hG.1 1 23 kb_293_23 _ _ _ rfl ?_
    cases hf
    exact And.intro (fun z_ => absurd z_ (by decide)) (And.intro rfl rfl)
  · rw [if_neg hc21] at hf
    obtain ⟨⟨r3, h4⟩, cr3, hf⟩ := Option.bind_eq_some_iff.mp hf
    try dsimp only at hf
    refine And.intro hg1 (And.intro (Nat.le_of_ble_eq_true rfl) (And.intro (Nat.le_of_ble_eq_true rfl) (Exists.intro (some (.int r3)) (Exists.intro _ (And.intro (l_198 cr3) (?_))))))
    refine And.intro (fun (hc20 : ¬ r3 = 0) => ?_) (fun (hc20 : ¬ (¬ r3 = 0)) => ?_)
    · rw [if_pos hc20] at hf
      refine hG.1 2 25 kb_293_25 _ _ _ rfl ?_
      obtain ⟨e13, he_e13, hf⟩ := Option.bind_eq_some_iff.mp hf
      refine hG.2 28 _ [0, 2, 3, 4] _ _ _ rfl ?_
      refine hl_28 _ _ _ _ _ _ he_e13 ?_
      refine hG.1 4 84 kb_293_84 _ _ _ rfl ?_
      refine And.intro (fun (hc19 : v3 = 0) => ?_) (fun (hc19 : ¬ (v3 = 0)) => ?_)
      · rw [if_pos hc19] at hf
        refine hG.1 5 95 kb_293_95 _ _ _ rfl ?_
        obtain ⟨hg14, hf⟩ := pb_gd hf
        obtain ⟨r15, cr15, hf⟩ := Option.bind_eq_some_iff.mp hf
        refine And.intro hg14 (And.intro (Nat.le_of_ble_eq_true rfl) (And.intro (Nat.le_of_ble_eq_true rfl) (Exists.intro (some (.int r15)) (Exists.intro _ (And.intro (l_203 cr15) (?_))))))
        refine hG.1 6 99 kb_293_99 _ _ _ rfl ?_
        cases hf
        exact And.intro (fun z_ => absurd z_ (by decide)) (And.intro rfl rfl)
      · rw [if_neg hc19] at hf
        obtain ⟨hg16, hf⟩ := pb_gd hf
        obtain ⟨⟨r17, h18⟩, cr17, hf⟩ := Option.bind_eq_some_iff.mp hf
        try dsimp only at hf
        refine And.intro hg16 (And.intro (Nat.le_of_ble_eq_true rfl) (And.intro (Nat.le_of_ble_eq_true rfl) (Exists.intro (some (.int r17)) (Exists.intro _ (And.intro (l_210 cr17) (?_))))))
        refine hG.1 6 99 kb_293_99 _ _ _ rfl ?_
        cases hf
        exact And.intro (fun z_ => absurd z_ (by decide)) (And.intro rfl rfl)
    · rw [if_neg hc20] at hf
      refine hG.1 1 23 kb_293_23 _ _ _ rfl ?_
      cases hf
      exact And.intro (fun z_ => absurd z_ (by decide)) (And.intro rfl rfl)
/-- PointedBenchModel.fewest -/
def f_294 (N : Nat) (h : pb_HP) (v0 : Nat) (v1 : Int32) (v2 : Int32) (v3 : Int32) : Option (Int32 × pb_HP) :=
  if pb_is h v0 11 then ((f_198 N (pb_pI h v0 0 0) v0 v1).bind fun (r2, h3) => (if r2 = 0 then (some (((-1), h3))) else (if pb_is h3 v0 11 then ((f_200 h3 v0 v2).bind fun r5 => (if ¬ r5 = 0 then ((f_230 N h3 v0 v2 0).bind fun (r6, h7) => (if r6 = ((-1)) then (some ((r6, h7))) else (if v3 = 0 then ((f_172 N r6).bind fun r8 => (some ((r8, h7)))) else (some ((r6, h7)))))) else (some (((-1), h3))))) else none))) else none
set_option maxRecDepth 4000 in
theorem l_294 {xs : List Int32} {d : Nat} {N : Nat} {h : pb_HP} {v0 : Nat} {v1 : Int32} {v2 : Int32} {v3 : Int32} {r : Int32} {hE : pb_HP} (hf : f_294 N h v0 v1 v2 v3 = some ((r, hE))) : pb_AR xs (d + 7) 294 h [.ref v0, .int v1, .int v2, .int v3] (some (.int r)) hE := by
  intro G hG
  have hc_ : pb_CODE 294 = kc_294 := rfl
  rw [hc_] at hG
  unfold f_294 at hf
  refine hG.1 0 0 kb_294_0 _ _ _ rfl ?_
  obtain ⟨hg1, hf⟩ := pb_gd hf
  refine And.intro hg1 (?_)
  obtain ⟨⟨r2, h3⟩, cr2, hf⟩ := Option.bind_eq_some_iff.mp hf
  try dsimp only at hf
  refine And.intro hg1 (And.intro (Nat.le_of_ble_eq_true rfl) (And.intro (Nat.le_of_ble_eq_true rfl) (Exists.intro (some (.int r2)) (Exists.intro _ (And.intro (l_198 cr2) (?_))))))
  refine And.intro (fun (hc12 : r2 = 0) => ?_) (fun (hc12 : ¬ (r2 = 0)) => ?_)
  · rw [if_pos hc12] at hf
    refine hG.1 1 21 kb_294_21 _ _ _ rfl ?_
    cases hf
    exact And.intro (fun z_ => absurd z_ (by decide)) (And.intro rfl rfl)
  · rw [if_neg hc12] at hf
    obtain ⟨hg4, hf⟩ := pb_gd hf
    obtain ⟨r5, cr5, hf⟩ := Option.bind_eq_some_iff.mp hf
    refine And.intro hg4 (And.intro (Nat.le_of_ble_eq_true rfl) (And.intro (Nat.le_of_ble_eq_true rfl) (Exists.intro (some (.int r5)) (Exists.intro _ (And.intro (l_200 cr5) (?_))))))
    refine And.intro (fun (hc11 : ¬ r5 = 0) => ?_) (fun (hc11 : ¬ (¬ r5 = 0)) => ?_)
    · rw [if_pos hc11] at hf
      refine hG.1 2 23 kb_294_23 _ _ _ rfl ?_
      obtain ⟨⟨r6, h7⟩, cr6, hf⟩ := Option.bind_eq_some_iff.mp hf
      try dsimp only at hf
      refine And.intro hg4 (And.intro (Nat.le_of_ble_eq_true rfl) (And.intro (Nat.le_of_ble_eq_true rfl) (Exists.intro (some (.int r6)) (Exists.intro _ (And.intro (l_230 cr6) (?_))))))
      refine And.intro (fun (hc10 : r6 = ((-1))) => ?_) (fun (hc10 : ¬ (r6 = ((-1)))) => ?_)
      · rw [if_pos hc10] at hf
        refine hG.1 3 41 kb_294_41 _ _ _ rfl ?_
        refine hG.1 5 51 kb_294_51 _ _ _ rfl ?_
        cases hf
        exact And.intro (fun z_ => absurd z_ (by decide)) (And.intro rfl rfl)
      · rw [if_neg hc10] at hf
        refine And.intro (fun (hc9 : v3 = 0) => ?_) (fun (hc9 : ¬ (v3 = 0)) => ?_)
        · rw [if_pos hc9] at hf
          refine hG.1 4 46 kb_294_46 _ _ _ rfl ?_
          obtain ⟨r8, cr8, hf⟩ := Option.bind_eq_some_iff.mp hf
          refine And.intro (Nat.le_of_ble_eq_true rfl) (And.intro (Nat.le_of_ble_eq_true rfl) (And.intro (Nat.le_of_ble_eq_true rfl) (Exists.intro (some (.int r8)) (Exists.intro _ (And.intro (l_172 cr8) (?_))))))
          refine hG.1 5 51 kb_294_51 _ _ _ rfl ?_
          cases hf
          exact And.intro (fun z_ => absurd z_ (by decide)) (And.intro rfl rfl)
        · rw [if_neg hc9] at hf
          refine hG.1 3 41 kb_294_41 _ _ _ rfl ?_
          refine hG.1 5 51 kb_294_51 _ _ _ rfl ?_
          cases hf
          exact And.intro (fun z_ => absurd z_ (by decide)) (And.intro rfl rfl)
    · rw [if_neg hc11] at hf
      refine hG.1 1 21 kb_294_21 _ _ _ rfl ?_
      cases hf
      exact And.intro (fun z_ => absurd z_ (by decide)) (And.intro rfl rfl)
def f_195_118 (N : Nat) (h : pb_HP) (v0 : Nat) (v1 : Int32) (v3 : Int32) (s0 : Int32) (s1 : Int32) (s2 : Int32) (s3 : Nat) : Option (Int32 × pb_HP) :=
  if pb_ar h s3 12 s2 then (if ¬ v1 = 0 then (if ¬ v1 = 1 then (if pb_is h v0 11 then ((pb_R h v0 8).bind fun q26 => ((f_194 N (pb_pI h s3 s2.toNatClampNeg (s1 + s0)) v0 q26 25 v3).bind fun h28 => (some ((v3, h28))))) else none) else (if pb_is h v0 11 then ((pb_R h v0 7).bind fun q30 => ((f_194 N (pb_pI h s3 s2.toNatClampNeg (s1 + s0)) v0 q30 161 v3).bind fun h32 => (some ((v3, h32))))) else none)) else (if pb_is h v0 11 then ((pb_R h v0 6).bind fun q35 => ((f_194 N (pb_pI h s3 s2.toNatClampNeg (s1 + s0)) v0 q35 68 v3).bind fun h37 => (some ((v3, h37))))) else none)) else none
def f_195_100 (N : Nat) (h : pb_HP) (v0 : Nat) (v1 : Int32) (v2 : Int32) (s0 : Int32) : Option (Int32 × pb_HP) :=
  if pb_is h v0 11 then ((pb_R h v0 5).bind fun q22 => (if pb_ar h q22 12 v1 then (if ¬ v2 = ((-1)) then (f_195_118 N h v0 v1 s0 0 (pb_I h q22 v1.toNatClampNeg) v1 q22) else (f_195_118 N h v0 v1 s0 1 (pb_I h q22 v1.toNatClampNeg) v1 q22)) else none)) else none
def f_195_75 (N : Nat) (h : pb_HP) (v0 : Nat) (v1 : Int32) (v2 : Int32) : Option (Int32 × pb_HP) :=
  if pb_is h v0 11 then ((f_193 N h v0 v1).bind fun (r19, h20) => (if ¬ r19 = 0 then (if ¬ v2 = ((-1)) then (f_195_100 N h20 v0 v1 v2 v2) else (if pb_is h20 v0 11 then ((pb_R h20 v0 5).bind fun q41 => (if pb_ar h20 q41 12 v1 then (f_195_100 N h20 v0 v1 v2 (pb_I h20 q41 v1.toNatClampNeg)) else none)) else none)) else (some (((-1), h20))))) else none
/-- PointedBenchModel.text -/
def f_195 (N : Nat) (h : pb_HP) (v0 : Nat) (v1 : Int32) (v2 : Int32) : Option (Int32 × pb_HP) :=
  if pb_is h v0 11 then ((pb_R h v0 2).bind fun q2 => (if pb_ar h q2 12 0 then ((pb_R h v0 3).bind fun q4 => (if pb_ar h q4 12 0 then ((pb_R h v0 4).bind fun q6 => (if pb_ar h q6 12 0 then (pb_hb (pb_pI (pb_pI (pb_pI (pb_pI (pb_pI h v0 0 0) v0 10 (pb_I (pb_pI h v0 0 0) q2 (0 : Int32).toNatClampNeg)) q2 (0 : Int32).toNatClampNeg 0) q4 (0 : Int32).toNatClampNeg 0) q6 (0 : Int32).toNatClampNeg ((-1))) fun h8 => ((f_168 v1 0 2).bind fun r16 => (if r16 = 0 then (some (((-2), h8))) else (if ¬ v2 = ((-1)) then ((f_175 h8 v0 v1 v2).bind fun r17 => (if ¬ r17 = 0 then (f_195_75 N h8 v0 v1 v2) else (some (((-2), h8))))) else ((pb_R h v0 5).bind fun q46 => (if pb_ar h q46 12 v1 then (if ¬ (pb_I h8 q46 v1.toNatClampNeg) = 2 then (f_195_75 N h8 v0 v1 v2) else (some (((-2), h8)))) else none)))))) else none)) else none)) else none)) else none
set_option maxRecDepth 4000 in
theorem l_195 {xs : List Int32} {d : Nat} {N : Nat} {h : pb_HP} {v0 : Nat} {v1 : Int32} {v2 : Int32} {r : Int32} {hE : pb_HP} (hf : f_195 N h v0 v1 v2 = some ((r, hE))) : pb_AR xs (d + 8) 195 h [.ref v0, .int v1, .int v2] (some (.int r)) hE := by
  intro G hG
  have hc_ : pb_CODE 195 = kc_195 := rfl
  rw [hc_] at hG
  have hj_118 : ∀ (h : pb_HP) (v0 : Nat) (v1 : Int32) (v3 : Int32) (s0 : Int32) (s1 : Int32) (s2 : Int32) (s3 : Nat), f_195_118 N h v0 v1 v3 s0 s1 s2 s3 = some ((r, hE)) → G 118 [(0, .ref v0), (1, .int v1), (3, .int v3)] [.int s0, .int s1, .int s2, .ref s3] h := by
    intro h v0 v1 v3 s0 s1 s2 s3 hf
    unfold f_195_118 at hf
    refine hG.1 8 118 kb_195_118 _ _ _ rfl ?_
    obtain ⟨hg24, hf⟩ := pb_gd hf
    refine And.intro hg24 (?_)
    refine And.intro (fun (hc38 : ¬ v1 = 0) => ?_) (fun (hc38 : ¬ (¬ v1 = 0)) => ?_)
    · rw [if_pos hc38] at hf
      refine hG.1 9 138 kb_195_138 _ _ _ rfl ?_
      refine And.intro (fun (hc33 : ¬ v1 = 1) => ?_) (fun (hc33 : ¬ (¬ v1 = 1)) => ?_)
      · rw [if_pos hc33] at hf
        refine hG.1 10 158 kb_195_158 _ _ _ rfl ?_
        obtain ⟨hg25, hf⟩ := pb_gd hf
        obtain ⟨q26, eq26, hf⟩ := Option.bind_eq_some_iff.mp hf
        refine And.intro hg25 (Exists.intro q26 (And.intro eq26 (?_)))
        obtain ⟨h28, cr27, hf⟩ := Option.bind_eq_some_iff.mp hf
        refine And.intro hg25 (And.intro (Nat.le_of_ble_eq_true rfl) (And.intro (Nat.le_of_ble_eq_true rfl) (Exists.intro none (Exists.intro _ (And.intro (l_194 cr27) (?_))))))
        refine hG.1 11 169 kb_195_169 _ _ _ rfl ?_
        cases hf
        exact And.intro (fun z_ => absurd z_ (by decide)) (And.intro rfl rfl)
      · rw [if_neg hc33] at hf
        obtain ⟨hg29, hf⟩ := pb_gd hf
        obtain ⟨q30, eq30, hf⟩ := Option.bind_eq_some_iff.mp hf
        refine And.intro hg29 (Exists.intro q30 (And.intro eq30 (?_)))
        obtain ⟨h32, cr31, hf⟩ := Option.bind_eq_some_iff.mp hf
        refine And.intro hg29 (And.intro (Nat.le_of_ble_eq_true rfl) (And.intro (Nat.le_of_ble_eq_true rfl) (Exists.intro none (Exists.intro _ (And.intro (l_194 cr31) (?_))))))
        refine hG.1 11 169 kb_195_169 _ _ _ rfl ?_
        cases hf
        exact And.intro (fun z_ => absurd z_ (by decide)) (And.intro rfl rfl)
    · rw [if_neg hc38] at hf
      obtain ⟨hg34, hf⟩ := pb_gd hf
      obtain ⟨q35, eq35, hf⟩ := Option.bind_eq_some_iff.mp hf
      refine And.intro hg34 (Exists.intro q35 (And.intro eq35 (?_)))
      obtain ⟨h37, cr36, hf⟩ := Option.bind_eq_some_iff.mp hf
      refine And.intro hg34 (And.intro (Nat.le_of_ble_eq_true rfl) (And.intro (Nat.le_of_ble_eq_true rfl) (Exists.intro none (Exists.intro _ (And.intro (l_194 cr36) (?_))))))
      refine hG.1 11 169 kb_195_169 _ _ _ rfl ?_
      cases hf
      exact And.intro (fun z_ => absurd z_ (by decide)) (And.intro rfl rfl)
  have hj_100 : ∀ (h : pb_HP) (v0 : Nat) (v1 : Int32) (v2 : Int32) (s0 : Int32), f_195_100 N h v0 v1 v2 s0 = some ((r, hE)) → G 100 [(0, .ref v0), (1, .int v1), (2, .int v2)] [.int s0] h := by
    intro h v0 v1 v2 s0 hf
    unfold f_195_100 at hf
    refine hG.1 6 100 kb_195_100 _ _ _ rfl ?_
    obtain ⟨hg21, hf⟩ := pb_gd hf
    obtain ⟨q22, eq22, hf⟩ := Option.bind_eq_some_iff.mp hf
    obtain ⟨hg23, hf⟩ := pb_gd hf
    refine And.intro hg21 (Exists.intro q22 (And.intro eq22 (And.intro hg23 (?_))))
    refine And.intro (fun (hc39 : ¬ v2 = ((-1))) => ?_) (fun (hc39 : ¬ (¬ v2 = ((-1)))) => ?_)
    · rw [if_pos hc39] at hf
      refine hG.1 7 117 kb_195_117 _ _ _ rfl ?_
      refine hG.2 118 _ [0, 1, 3] _ _ _ rfl ?_
      exact hj_118 _ _ _ _ _ _ _ _ hf
    · rw [if_neg hc39] at hf
      refine hG.2 118 _ [0, 1, 3] _ _ _ rfl ?_
      exact hj_118 _ _ _ _ _ _ _ _ hf
  have hj_75 : ∀ (h : pb_HP) (v0 : Nat) (v1 : Int32) (v2 : Int32), f_195_75 N h v0 v1 v2 = some ((r, hE)) → G 75 [(0, .ref v0), (1, .int v1), (2, .int v2)] [] h := by
    intro h v0 v1 v2 hf
    unfold f_195_75 at hf
    refine hG.1 3 75 kb_195_75 _ _ _ rfl ?_
    obtain ⟨hg18, hf⟩ := pb_gd hf
    obtain ⟨⟨r19, h20⟩, cr19, hf⟩ := Option.bind_eq_some_iff.mp hf
    try dsimp only at hf
    refine And.intro hg18 (And.intro (Nat.le_of_ble_eq_true rfl) (And.intro (Nat.le_of_ble_eq_true rfl) (Exists.intro (some (.int r19)) (Exists.intro _ (And.intro (l_193 cr19) (?_))))))
    refine And.intro (fun (hc44 : ¬ r19 = 0) => ?_) (fun (hc44 : ¬ (¬ r19 = 0)) => ?_)
    · rw [if_pos hc44] at hf
      refine hG.1 4 85 kb_195_85 _ _ _ rfl ?_
      refine And.intro (fun (hc43 : ¬ v2 = ((-1))) => ?_) (fun (hc43 : ¬ (¬ v2 = ((-1)))) => ?_)
      · rw [if_pos hc43] at hf
        refine hG.1 5 99 kb_195_99 _ _ _ rfl ?_
        exact hj_100 _ _ _ _ _ hf
      · rw [if_neg hc43] at hf
        obtain ⟨hg40, hf⟩ := pb_gd hf
        obtain ⟨q41, eq41, hf⟩ := Option.bind_eq_some_iff.mp hf
        obtain ⟨hg42, hf⟩ := pb_gd hf
        refine And.intro hg40 (Exists.intro q41 (And.intro eq41 (And.intro hg42 (?_))))
        exact hj_100 _ _ _ _ _ hf
    · rw [if_neg hc44] at hf
      cases hf
      exact And.intro (fun z_ => absurd z_ (by decide)) (And.intro rfl rfl)
  unfold f_195 at hf
  refine hG.1 0 0 kb_195_0 _ _ _ rfl ?_
  obtain ⟨hg1, hf⟩ := pb_gd hf
  obtain ⟨q2, eq2, hf⟩ := Option.bind_eq_some_iff.mp hf
  obtain ⟨hg3, hf⟩ := pb_gd hf
  obtain ⟨q4, eq4, hf⟩ := Option.bind_eq_some_iff.mp hf
  obtain ⟨hg5, hf⟩ := pb_gd hf
  obtain ⟨q6, eq6, hf⟩ := Option.bind_eq_some_iff.mp hf
  obtain ⟨hg7, hf⟩ := pb_gd hf
  refine And.intro hg1 (And.intro hg1 (Exists.intro q2 (And.intro eq2 (And.intro hg3 (And.intro hg1 (And.intro hg1 (Exists.intro q2 (And.intro eq2 (And.intro hg3 (And.intro hg1 (Exists.intro q4 (And.intro eq4 (And.intro hg5 (And.intro hg1 (Exists.intro q6 (And.intro eq6 (And.intro hg7 (?_))))))))))))))))))
  refine pb_hset (E := pb_pI (pb_pI (pb_pI (pb_pI (pb_pI h v0 0 0) v0 10 (pb_I (pb_pI h v0 0 0) q2 (0 : Int32).toNatClampNeg)) q2 (0 : Int32).toNatClampNeg 0) q4 (0 : Int32).toNatClampNeg 0) q6 (0 : Int32).toNatClampNeg ((-1))) rfl (fun h8 eh8 => ?_)
  have hf := pb_hbd hf eh8
  have hg9 : pb_is h8 v0 11 := pb_isx eh8 hg1
  have hg10 : pb_ar h8 q2 12 0 := pb_arx eh8 hg3
  have hg11 : pb_ar h8 q4 12 0 := pb_arx eh8 hg5
  have hg12 : pb_ar h8 q6 12 0 := pb_arx eh8 hg7
  have eq13 : pb_R h8 v0 2 = some q2 := pb_Rx eh8 eq2
  have eq14 : pb_R h8 v0 3 = some q4 := pb_Rx eh8 eq4
  have eq15 : pb_R h8 v0 4 = some q6 := pb_Rx eh8 eq6
  obtain ⟨r16, cr16, hf⟩ := Option.bind_eq_some_iff.mp hf
  refine And.intro (Nat.le_of_ble_eq_true rfl) (And.intro (Nat.le_of_ble_eq_true rfl) (And.intro (Nat.le_of_ble_eq_true rfl) (Exists.intro (some (.int r16)) (Exists.intro _ (And.intro (l_168 cr16) (?_))))))
  refine And.intro (fun (hc52 : r16 = 0) => ?_) (fun (hc52 : ¬ (r16 = 0)) => ?_)
  · rw [if_pos hc52] at hf
    refine hG.1 2 72 kb_195_72 _ _ _ rfl ?_
    cases hf
    exact And.intro (fun z_ => absurd z_ (by decide)) (And.intro rfl rfl)
  · rw [if_neg hc52] at hf
    refine And.intro (fun (hc51 : ¬ v2 = ((-1))) => ?_) (fun (hc51 : ¬ (¬ v2 = ((-1)))) => ?_)
    · rw [if_pos hc51] at hf
      refine hG.1 1 63 kb_195_63 _ _ _ rfl ?_
      obtain ⟨r17, cr17, hf⟩ := Option.bind_eq_some_iff.mp hf
      refine And.intro hg9 (And.intro (Nat.le_of_ble_eq_true rfl) (And.intro (Nat.le_of_ble_eq_true rfl) (Exists.intro (some (.int r17)) (Exists.intro _ (And.intro (l_175 cr17) (?_))))))
      refine And.intro (fun (hc45 : ¬ r17 = 0) => ?_) (fun (hc45 : ¬ (¬ r17 = 0)) => ?_)
      · rw [if_pos hc45] at hf
        exact hj_75 _ _ _ _ hf
      · rw [if_neg hc45] at hf
        refine hG.1 2 72 kb_195_72 _ _ _ rfl ?_
        cases hf
        exact And.intro (fun z_ => absurd z_ (by decide)) (And.intro rfl rfl)
    · rw [if_neg hc51] at hf
      obtain ⟨q46, eq46, hf⟩ := Option.bind_eq_some_iff.mp hf
      have eq47 : pb_R h8 v0 5 = some q46 := pb_Rx eh8 eq46
      obtain ⟨hg48, hf⟩ := pb_gd hf
      have hg49 : pb_ar h8 q46 12 v1 := pb_arx eh8 hg48
      refine And.intro hg9 (Exists.intro q46 (And.intro eq47 (And.intro hg49 (?_))))
      refine And.intro (fun (hc50 : ¬ (pb_I h8 q46 v1.toNatClampNeg) = 2) => ?_) (fun (hc50 : ¬ (¬ (pb_I h8 q46 v1.toNatClampNeg) = 2)) => ?_)
      · rw [if_pos hc50] at hf
        exact hj_75 _ _ _ _ hf
      · rw [if_neg hc50] at hf
        refine hG.1 2 72 kb_195_72 _ _ _ rfl ?_
        cases hf
        exact And.intro (fun z_ => absurd z_ (by decide)) (And.intro rfl rfl)
/-- PointedBenchModel.doesDeed -/
def f_221 (N : Nat) (h : pb_HP) (v0 : Nat) (v1 : Int32) : Option (Int32 × pb_HP) :=
  if pb_is h v0 11 then ((f_213 h v0 v1 0).bind fun r2 => ((f_213 h v0 v1 1).bind fun r3 => ((f_213 h v0 v1 2).bind fun r4 => ((f_213 h v0 v1 3).bind fun r5 => ((f_220 N h v0 r2 r3 r4 r5).bind fun (r6, h7) => (if r6 = 0 ∨ r6 = 1 then (some ((r6, h7))) else none)))))) else none
set_option maxRecDepth 4000 in
theorem l_221 {xs : List Int32} {d : Nat} {N : Nat} {h : pb_HP} {v0 : Nat} {v1 : Int32} {r : Int32} {hE : pb_HP} (hf : f_221 N h v0 v1 = some ((r, hE))) : pb_AR xs (d + 8) 221 h [.ref v0, .int v1] (some (.int r)) hE := by
  intro G hG
  have hc_ : pb_CODE 221 = kc_221 := rfl
  rw [hc_] at hG
  unfold f_221 at hf
  refine hG.1 0 0 kb_221_0 _ _ _ rfl ?_
  obtain ⟨hg1, hf⟩ := pb_gd hf
  obtain ⟨r2, cr2, hf⟩ := Option.bind_eq_some_iff.mp hf
  refine And.intro hg1 (And.intro (Nat.le_of_ble_eq_true rfl) (And.intro (Nat.le_of_ble_eq_true rfl) (Exists.intro (some (.int r2)) (Exists.intro _ (And.intro (l_213 cr2) (?_))))))
  obtain ⟨r3, cr3, hf⟩ := Option.bind_eq_some_iff.mp hf
  refine And.intro hg1 (And.intro (Nat.le_of_ble_eq_true rfl) (And.intro (Nat.le_of_ble_eq_true rfl) (Exists.intro (some (.int r3)) (Exists.intro _ (And.intro (l_213 cr3) (?_))))))
  obtain ⟨r4, cr4, hf⟩ := Option.bind_eq_some_iff.mp hf
  refine And.intro hg1 (And.intro (Nat.le_of_ble_eq_true rfl) (And.intro (Nat.le_of_ble_eq_true rfl) (Exists.intro (some (.int r4)) (Exists.intro _ (And.intro (l_213 cr4) (?_))))))
  obtain ⟨r5, cr5, hf⟩ := Option.bind_eq_some_iff.mp hf
  refine And.intro hg1 (And.intro (Nat.le_of_ble_eq_true rfl) (And.intro (Nat.le_of_ble_eq_true rfl) (Exists.intro (some (.int r5)) (Exists.intro _ (And.intro (l_213 cr5) (?_))))))
  obtain ⟨⟨r6, h7⟩, cr6, hf⟩ := Option.bind_eq_some_iff.mp hf
  try dsimp only at hf
  refine And.intro hg1 (And.intro (Nat.le_of_ble_eq_true rfl) (And.intro (Nat.le_of_ble_eq_true rfl) (Exists.intro (some (.int r6)) (Exists.intro _ (And.intro (l_220 cr6) (?_))))))
  obtain ⟨hg8, hf⟩ := pb_gd hf
  cases hf
  exact And.intro (fun _ => hg8) (And.intro rfl rfl)
def f_241_57s (N : Nat) (v0 : Nat) (v2 : Int32) (v3 : Int32) (v4 : Int32) (v5 : Int32) (v6 : Int32) (s : Int32 × pb_HP) : Option ((Int32 × pb_HP) ⊕ (pb_HP)) :=
  if v6 ≤ s.1 then (some (.inr s.2)) else (if pb_is s.2 v0 11 then ((pb_R s.2 v0 37).bind fun q10 => ((f_239 N s.2 v0 v2 v3 v4 s.1).bind fun (r11, h12) => (if pb_ar h12 q10 12 s.1 then (some (.inl ((s.1 + 1, pb_pI h12 q10 s.1.toNatClampNeg r11)))) else none))) else none)
def f_241_144 (N : Nat) (h : pb_HP) (v0 : Nat) (v5 : Int32) (v6 : Int32) (v7 : Int32) (v8 : Int32) (s0 : Int32) (s1 : Int32) (s2 : Nat) (s3 : Int32) (s4 : Nat) : Option ((Int32 × pb_HP) ⊕ (pb_HP)) :=
  if pb_is h s2 11 then ((f_240 N h s2 s1 s0).bind fun (r20, h21) => (if pb_ar h21 s4 12 s3 then (some (.inl ((v8 + 1, pb_pI h21 s4 s3.toNatClampNeg r20)))) else none)) else none
def f_241_113s (N : Nat) (v0 : Nat) (v5 : Int32) (v6 : Int32) (v7 : Int32) (s : Int32 × pb_HP) : Option ((Int32 × pb_HP) ⊕ (pb_HP)) :=
  if v6 ≤ s.1 then (some (.inr s.2)) else (if pb_is s.2 v0 11 then ((pb_R s.2 v0 37).bind fun q18 => (if ¬ (v7 - v7 / 2 * 2) = 0 then (f_241_144 N s.2 v0 v5 v6 v7 s.1 0 (7 * s.1) v0 s.1 q18) else (f_241_144 N s.2 v0 v5 v6 v7 s.1 1 (7 * s.1) v0 s.1 q18))) else none)
def f_241_98s (N : Nat) (v0 : Nat) (v5 : Int32) (s : Int32 × Int32 × pb_HP) : Option ((Int32 × Int32 × pb_HP) ⊕ (pb_HP)) :=
  if s.2.1 < 0 then (some (.inr s.2.2)) else ((pb_wl (f_241_113s N v0 v5 (s.1 / 7) s.2.1) N ((0, s.2.2))).bind fun e25 => (some (.inl ((s.1 / 7, s.2.1 + (-1), e25)))))
/-- PointedBenchModel.rivals -/
def f_241 (N : Nat) (h : pb_HP) (v0 : Nat) (v1 : Int32) (v2 : Int32) (v3 : Int32) (v4 : Int32) (v5 : Int32) : Option (Int32 × pb_HP) :=
  if pb_is h v0 11 then ((f_168 v4 0 4).bind fun r2 => (if r2 = 0 then (some (((-9), pb_pI h v0 0 0))) else ((f_198 N (pb_pI h v0 0 0) v0 v1).bind fun (r3, h4) => (if r3 = 0 then (some (((-9), h4))) else (if pb_is h4 v0 11 then ((f_200 h4 v0 v2).bind fun r6 => (if r6 = 0 then (some (((-9), h4))) else ((f_200 h4 v0 v3).bind fun r7 => (if r7 = 0 then (some (((-9), h4))) else (if ¬ v2 = v3 then ((f_238 N v4).bind fun r8 => ((pb_wl (f_241_57s N v0 v2 v3 v4 v5 r8) N ((0, h4))).bind fun e15 => (if pb_is e15 v0 11 then ((pb_wl (f_241_98s N v0 v5) N ((r8, v4 - 1, pb_pI e15 v0 38 ((-1))))).bind fun e27 => (if v5 = 0 then (if pb_is e27 v0 11 then ((pb_R e27 v0 37).bind fun q29 => (if pb_ar e27 q29 12 0 then (some ((pb_I e27 q29 (0 : Int32).toNatClampNeg, e27))) else none)) else none) else (if pb_is e27 v0 11 then (some ((pb_I e27 v0 38, e27))) else none))) else none))) else (some (((-9), h4)))))))) else none))))) else none
set_option maxRecDepth 4000 in
theorem l_241 {xs : List Int32} {d : Nat} {N : Nat} {h : pb_HP} {v0 : Nat} {v1 : Int32} {v2 : Int32} {v3 : Int32} {v4 : Int32} {v5 : Int32} {r : Int32} {hE : pb_HP} (hf : f_241 N h v0 v1 v2 v3 v4 v5 = some ((r, hE))) : pb_AR xs (d + 8) 241 h [.ref v0, .int v1, .int v2, .int v3, .int v4, .int v5] (some (.int r)) hE := by
  intro G hG
  have hc_ : pb_CODE 241 = kc_241 := rfl
  rw [hc_] at hG
  have hl_57 : ∀ (v0 : Nat) (v2 : Int32) (v3 : Int32) (v4 : Int32) (v5 : Int32) (v6 : Int32) (n_ : Nat) (s : Int32 × pb_HP) (e : pb_HP), pb_wl (f_241_57s N v0 v2 v3 v4 v5 v6) n_ s = some e → G 87 [(0, .ref v0), (4, .int v4), (5, .int v5), (6, .int v6)] [] e → G 57 [(0, .ref v0), (2, .int v2), (3, .int v3), (4, .int v4), (5, .int v5), (6, .int v6), (7, .int s.1)] [] s.2 := by
    intro v0 v2 v3 v4 v5 v6
    refine pb_wl_ind (I := fun (s : Int32 × pb_HP) => G 57 [(0, .ref v0), (2, .int v2), (3, .int v3), (4, .int v4), (5, .int v5), (6, .int v6), (7, .int s.1)] [] s.2) (K := fun (e : pb_HP) => G 87 [(0, .ref v0), (4, .int v4), (5, .int v5), (6, .int v6)] [] e) (fun s x hf hk => ?_)
    unfold f_241_57s at hf
    refine hG.1 3 57 kb_241_57 _ _ _ rfl ?_
    refine And.intro (fun (hc14 : v6 ≤ s.1) => ?_) (fun (hc14 : ¬ (v6 ≤ s.1)) => ?_)
    · rw [if_pos hc14] at hf
      cases hf
      exact hG.2 87 _ [0, 3, 4, 5] _ _ _ rfl hk
    · rw [if_neg hc14] at hf
      obtain ⟨hg9, hf⟩ := pb_gd hf
      obtain ⟨q10, eq10, hf⟩ := Option.bind_eq_some_iff.mp hf
      refine And.intro hg9 (Exists.intro q10 (And.intro eq10 (?_)))
      obtain ⟨⟨r11, h12⟩, cr11, hf⟩ := Option.bind_eq_some_iff.mp hf
      try dsimp only at hf
      refine And.intro hg9 (And.intro (Nat.le_of_ble_eq_true rfl) (And.intro (Nat.le_of_ble_eq_true rfl) (Exists.intro (some (.int r11)) (Exists.intro _ (And.intro (l_239 cr11) (?_))))))
      obtain ⟨hg13, hf⟩ := pb_gd hf
      refine And.intro hg13 (?_)
      cases hf
      exact hk
  have hj_144 : ∀ (h : pb_HP) (v0 : Nat) (v5 : Int32) (v6 : Int32) (v7 : Int32) (v8 : Int32) (s0 : Int32) (s1 : Int32) (s2 : Nat) (s3 : Int32) (s4 : Nat) x, f_241_144 N h v0 v5 v6 v7 v8 s0 s1 s2 s3 s4 = some x → pb_kk (fun (s_ : Int32 × pb_HP) => G 113 [(0, .ref v0), (5, .int v5), (6, .int v6), (7, .int v7), (8, .int s_.1)] [] s_.2) (fun (e_ : pb_HP) => G 154 [(0, .ref v0), (5, .int v5), (6, .int v6), (7, .int v7)] [] e_) x → G 144 [(0, .ref v0), (5, .int v5), (6, .int v6), (7, .int v7), (8, .int v8)] [.int s0, .int s1, .ref s2, .int s3, .ref s4] h := by
    intro h v0 v5 v6 v7 v8 s0 s1 s2 s3 s4 x hf hk
    unfold f_241_144 at hf
    refine hG.1 8 144 kb_241_144 _ _ _ rfl ?_
    obtain ⟨hg19, hf⟩ := pb_gd hf
    obtain ⟨⟨r20, h21⟩, cr20, hf⟩ := Option.bind_eq_some_iff.mp hf
    try dsimp only at hf
    refine And.intro hg19 (And.intro (Nat.le_of_ble_eq_true rfl) (And.intro (Nat.le_of_ble_eq_true rfl) (Exists.intro (some (.int r20)) (Exists.intro _ (And.intro (l_240 cr20) (?_))))))
    obtain ⟨hg22, hf⟩ := pb_gd hf
    refine And.intro hg22 (?_)
    cases hf
    exact hk
  have hl_113 : ∀ (v0 : Nat) (v5 : Int32) (v6 : Int32) (v7 : Int32) (n_ : Nat) (s : Int32 × pb_HP) (e : pb_HP), pb_wl (f_241_113s N v0 v5 v6 v7) n_ s = some e → G 154 [(0, .ref v0), (5, .int v5), (6, .int v6), (7, .int v7)] [] e → G 113 [(0, .ref v0), (5, .int v5), (6, .int v6), (7, .int v7), (8, .int s.1)] [] s.2 := by
    intro v0 v5 v6 v7
    refine pb_wl_ind (I := fun (s : Int32 × pb_HP) => G 113 [(0, .ref v0), (5, .int v5), (6, .int v6), (7, .int v7), (8, .int s.1)] [] s.2) (K := fun (e : pb_HP) => G 154 [(0, .ref v0), (5, .int v5), (6, .int v6), (7, .int v7)] [] e) (fun s x hf hk => ?_)
    unfold f_241_113s at hf
    refine hG.1 6 113 kb_241_113 _ _ _ rfl ?_
    refine And.intro (fun (hc24 : v6 ≤ s.1) => ?_) (fun (hc24 : ¬ (v6 ≤ s.1)) => ?_)
    · rw [if_pos hc24] at hf
      cases hf
      exact hG.2 154 _ [0, 1, 2, 3] _ _ _ rfl hk
    · rw [if_neg hc24] at hf
      obtain ⟨hg17, hf⟩ := pb_gd hf
      obtain ⟨q18, eq18, hf⟩ := Option.bind_eq_some_iff.mp hf
      refine And.intro hg17 (Exists.intro q18 (And.intro eq18 (And.intro (by decide) (?_))))
      refine And.intro (fun (hc23 : ¬ (v7 - v7 / 2 * 2) = 0) => ?_) (fun (hc23 : ¬ (¬ (v7 - v7 / 2 * 2) = 0)) => ?_)
      · rw [if_pos hc23] at hf
        refine hG.1 7 143 kb_241_143 _ _ _ rfl ?_
        exact hj_144 _ _ _ _ _ _ _ _ _ _ _ _ hf hk
      · rw [if_neg hc23] at hf
        exact hj_144 _ _ _ _ _ _ _ _ _ _ _ _ hf hk
  have hl_98 : ∀ (v0 : Nat) (v5 : Int32) (n_ : Nat) (s : Int32 × Int32 × pb_HP) (e : pb_HP), pb_wl (f_241_98s N v0 v5) n_ s = some e → G 160 [(0, .ref v0), (5, .int v5)] [] e → G 98 [(0, .ref v0), (5, .int v5), (6, .int s.1), (7, .int s.2.1)] [] s.2.2 := by
    intro v0 v5
    refine pb_wl_ind (I := fun (s : Int32 × Int32 × pb_HP) => G 98 [(0, .ref v0), (5, .int v5), (6, .int s.1), (7, .int s.2.1)] [] s.2.2) (K := fun (e : pb_HP) => G 160 [(0, .ref v0), (5, .int v5)] [] e) (fun s x hf hk => ?_)
    unfold f_241_98s at hf
    refine hG.1 5 98 kb_241_98 _ _ _ rfl ?_
    refine And.intro (fun (hc26 : s.2.1 < 0) => ?_) (fun (hc26 : ¬ (s.2.1 < 0)) => ?_)
    · rw [if_pos hc26] at hf
      cases hf
      exact hG.2 160 _ [0, 1] _ _ _ rfl hk
    · rw [if_neg hc26] at hf
      refine And.intro (by decide) (?_)
      obtain ⟨e25, he_e25, hf⟩ := Option.bind_eq_some_iff.mp hf
      refine hl_113 _ _ _ _ _ _ _ he_e25 ?_
      refine hG.1 9 154 kb_241_154 _ _ _ rfl ?_
      cases hf
      exact hk
  unfold f_241 at hf
  refine hG.1 0 0 kb_241_0 _ _ _ rfl ?_
  obtain ⟨hg1, hf⟩ := pb_gd hf
  refine And.intro hg1 (?_)
  obtain ⟨r2, cr2, hf⟩ := Option.bind_eq_some_iff.mp hf
  refine And.intro (Nat.le_of_ble_eq_true rfl) (And.intro (Nat.le_of_ble_eq_true rfl) (And.intro (Nat.le_of_ble_eq_true rfl) (Exists.intro (some (.int r2)) (Exists.intro _ (And.intro (l_168 cr2) (?_))))))
  refine And.intro (fun (hc37 : r2 = 0) => ?_) (fun (hc37 : ¬ (r2 = 0)) => ?_)
  · rw [if_pos hc37] at hf
    refine hG.1 1 44 kb_241_44 _ _ _ rfl ?_
    cases hf
    exact And.intro (fun z_ => absurd z_ (by decide)) (And.intro rfl rfl)
  · rw [if_neg hc37] at hf
    obtain ⟨⟨r3, h4⟩, cr3, hf⟩ := Option.bind_eq_some_iff.mp hf
    try dsimp only at hf
    refine And.intro hg1 (And.intro (Nat.le_of_ble_eq_true rfl) (And.intro (Nat.le_of_ble_eq_true rfl) (Exists.intro (some (.int r3)) (Exists.intro _ (And.intro (l_198 cr3) (?_))))))
    refine And.intro (fun (hc36 : r3 = 0) => ?_) (fun (hc36 : ¬ (r3 = 0)) => ?_)
    · rw [if_pos hc36] at hf
      refine hG.1 1 44 kb_241_44 _ _ _ rfl ?_
      cases hf
      exact And.intro (fun z_ => absurd z_ (by decide)) (And.intro rfl rfl)
    · rw [if_neg hc36] at hf
      obtain ⟨hg5, hf⟩ := pb_gd hf
      obtain ⟨r6, cr6, hf⟩ := Option.bind_eq_some_iff.mp hf
      refine And.intro hg5 (And.intro (Nat.le_of_ble_eq_true rfl) (And.intro (Nat.le_of_ble_eq_true rfl) (Exists.intro (some (.int r6)) (Exists.intro _ (And.intro (l_200 cr6) (?_))))))
      refine And.intro (fun (hc35 : r6 = 0) => ?_) (fun (hc35 : ¬ (r6 = 0)) => ?_)
      · rw [if_pos hc35] at hf
        refine hG.1 1 44 kb_241_44 _ _ _ rfl ?_
        cases hf
        exact And.intro (fun z_ => absurd z_ (by decide)) (And.intro rfl rfl)
      · rw [if_neg hc35] at hf
        obtain ⟨r7, cr7, hf⟩ := Option.bind_eq_some_iff.mp hf
        refine And.intro hg5 (And.intro (Nat.le_of_ble_eq_true rfl) (And.intro (Nat.le_of_ble_eq_true rfl) (Exists.intro (some (.int r7)) (Exists.intro _ (And.intro (l_200 cr7) (?_))))))
        refine And.intro (fun (hc34 : r7 = 0) => ?_) (fun (hc34 : ¬ (r7 = 0)) => ?_)
        · rw [if_pos hc34] at hf
          refine hG.1 1 44 kb_241_44 _ _ _ rfl ?_
          cases hf
          exact And.intro (fun z_ => absurd z_ (by decide)) (And.intro rfl rfl)
        · rw [if_neg hc34] at hf
          refine And.intro (fun (hc33 : ¬ v2 = v3) => ?_) (fun (hc33 : ¬ (¬ v2 = v3)) => ?_)
          · rw [if_pos hc33] at hf
            refine hG.1 2 47 kb_241_47 _ _ _ rfl ?_
            obtain ⟨r8, cr8, hf⟩ := Option.bind_eq_some_iff.mp hf
            refine And.intro (Nat.le_of_ble_eq_true rfl) (And.intro (Nat.le_of_ble_eq_true rfl) (And.intro (Nat.le_of_ble_eq_true rfl) (Exists.intro (some (.int r8)) (Exists.intro _ (And.intro (l_238 cr8) (?_))))))
            obtain ⟨e15, he_e15, hf⟩ := Option.bind_eq_some_iff.mp hf
            refine hG.2 57 _ [0, 2, 3, 4, 5, 6, 7] _ _ _ rfl ?_
            refine hl_57 _ _ _ _ _ _ _ _ _ he_e15 ?_
            refine hG.1 4 87 kb_241_87 _ _ _ rfl ?_
            obtain ⟨hg16, hf⟩ := pb_gd hf
            refine And.intro hg16 (?_)
            obtain ⟨e27, he_e27, hf⟩ := Option.bind_eq_some_iff.mp hf
            refine hG.2 98 _ [0, 2, 3, 4] _ _ _ rfl ?_
            refine hl_98 _ _ _ _ _ he_e27 ?_
            refine hG.1 10 160 kb_241_160 _ _ _ rfl ?_
            refine And.intro (fun (hc32 : v5 = 0) => ?_) (fun (hc32 : ¬ (v5 = 0)) => ?_)
            · rw [if_pos hc32] at hf
              refine hG.1 11 172 kb_241_172 _ _ _ rfl ?_
              obtain ⟨hg28, hf⟩ := pb_gd hf
              obtain ⟨q29, eq29, hf⟩ := Option.bind_eq_some_iff.mp hf
              obtain ⟨hg30, hf⟩ := pb_gd hf
              refine And.intro hg28 (Exists.intro q29 (And.intro eq29 (And.intro hg30 (?_))))
              refine hG.1 12 178 kb_241_178 _ _ _ rfl ?_
              cases hf
              exact And.intro (fun z_ => absurd z_ (by decide)) (And.intro rfl rfl)
            · rw [if_neg hc32] at hf
              obtain ⟨hg31, hf⟩ := pb_gd hf
              refine And.intro hg31 (?_)
              refine hG.1 12 178 kb_241_178 _ _ _ rfl ?_
              cases hf
              exact And.intro (fun z_ => absurd z_ (by decide)) (And.intro rfl rfl)
          · rw [if_neg hc33] at hf
            refine hG.1 1 44 kb_241_44 _ _ _ rfl ?_
            cases hf
            exact And.intro (fun z_ => absurd z_ (by decide)) (And.intro rfl rfl)
def f_257_152 (N : Nat) (h : pb_HP) (s0 : Int32) (s1 : Int32) (s2 : Int32) (s3 : Int32) (s4 : Nat) : Option (pb_HP) :=
  if pb_is h s4 11 then ((f_220 N h s4 s3 s2 s1 s0).bind fun (r8, h9) => (some h9)) else none
def f_257_134 (N : Nat) (h : pb_HP) (v0 : Nat) (v1 : Int32) (v2 : Int32) (v3 : Int32) (s0 : Int32) (s1 : Nat) : Option (pb_HP) :=
  if ¬ v1 = 4 then (f_257_152 N h ((-1)) v3 v2 s0 s1) else (if pb_is h v0 11 then ((f_256 h v0 3).bind fun (r11, h12) => (f_257_152 N h12 (1 + r11) v3 v2 s0 s1)) else none)
def f_257_113 (N : Nat) (h : pb_HP) (v0 : Nat) (v1 : Int32) (v2 : Int32) (s0 : Int32) : Option (pb_HP) :=
  if ¬ v1 = 3 then (if ¬ v1 = 4 then (f_257_134 N h v0 v1 v2 s0 4 v0) else (f_257_134 N h v0 v1 v2 s0 3 v0)) else (f_257_134 N h v0 v1 v2 s0 2 v0)
def f_257_67 (N : Nat) (h : pb_HP) (v0 : Nat) (v2 : Int32) (s0 : Int32) (s1 : Nat) : Option (pb_HP) :=
  if pb_is h v0 11 then ((f_256 h v0 6).bind fun (r25, h26) => (if pb_is h26 s1 11 then ((f_220 N h26 s1 s0 v2 r25 ((-1))).bind fun (r28, h29) => (some h29)) else none)) else none
def f_257_25 (N : Nat) (h : pb_HP) (s0 : Int32) (s1 : Nat) : Option (pb_HP) :=
  if pb_is h s1 11 then ((f_220 N h s1 s0 ((-1)) ((-1)) ((-1))).bind fun (r34, h35) => (some h35)) else none
/-- PointedBenchModel.drawDeed -/
def f_257 (N : Nat) (h : pb_HP) (v0 : Nat) : Option (pb_HP) :=
  if pb_is h v0 11 then ((f_256 h v0 10).bind fun (r2, h3) => (if r2 ≤ 5 then (if 3 ≤ r2 then (if pb_is h3 v0 11 then (if (pb_I h3 v0 25) ≤ 0 then (some h3) else ((f_256 h3 v0 (pb_I h3 v0 25)).bind fun (r5, h6) => (if 5 ≤ r2 then (f_257_113 N h6 v0 r2 r5 ((-1))) else (if pb_is h6 v0 11 then ((f_256 h6 v0 6).bind fun (r17, h18) => (f_257_113 N h18 v0 r2 r5 r17)) else none)))) else none) else (if pb_is h3 v0 11 then (if (pb_I h3 v0 24) ≤ 0 then (some h3) else ((f_256 h3 v0 (pb_I h3 v0 24)).bind fun (r22, h23) => (if ¬ r2 = 2 then (f_257_67 N h23 v0 r22 0 v0) else (f_257_67 N h23 v0 r22 1 v0)))) else none)) else (if r2 ≤ 7 then (f_257_25 N h3 5 v0) else (f_257_25 N h3 6 v0)))) else none
set_option maxRecDepth 4000 in
theorem l_257 {xs : List Int32} {d : Nat} {N : Nat} {h : pb_HP} {v0 : Nat} {hE : pb_HP} (hf : f_257 N h v0 = some hE) : pb_AR xs (d + 8) 257 h [.ref v0] none hE := by
  intro G hG
  have hc_ : pb_CODE 257 = kc_257 := rfl
  rw [hc_] at hG
  have hj_152 : ∀ (h : pb_HP) (s0 : Int32) (s1 : Int32) (s2 : Int32) (s3 : Int32) (s4 : Nat), f_257_152 N h s0 s1 s2 s3 s4 = some hE → G 152 [] [.int s0, .int s1, .int s2, .int s3, .ref s4] h := by
    intro h s0 s1 s2 s3 s4 hf
    unfold f_257_152 at hf
    refine hG.1 13 152 kb_257_152 _ _ _ rfl ?_
    obtain ⟨hg7, hf⟩ := pb_gd hf
    obtain ⟨⟨r8, h9⟩, cr8, hf⟩ := Option.bind_eq_some_iff.mp hf
    try dsimp only at hf
    refine And.intro hg7 (And.intro (Nat.le_of_ble_eq_true rfl) (And.intro (Nat.le_of_ble_eq_true rfl) (Exists.intro (some (.int r8)) (Exists.intro _ (And.intro (l_220 cr8) (?_))))))
    refine hG.1 14 156 kb_257_156 _ _ _ rfl ?_
    cases hf
    exact And.intro rfl rfl
  have hj_134 : ∀ (h : pb_HP) (v0 : Nat) (v1 : Int32) (v2 : Int32) (v3 : Int32) (s0 : Int32) (s1 : Nat), f_257_134 N h v0 v1 v2 v3 s0 s1 = some hE → G 134 [(0, .ref v0), (1, .int v1), (2, .int v2), (3, .int v3)] [.int s0, .ref s1] h := by
    intro h v0 v1 v2 v3 s0 s1 hf
    unfold f_257_134 at hf
    refine hG.1 11 134 kb_257_134 _ _ _ rfl ?_
    refine And.intro (fun (hc13 : ¬ v1 = 4) => ?_) (fun (hc13 : ¬ (¬ v1 = 4)) => ?_)
    · rw [if_pos hc13] at hf
      refine hG.1 12 151 kb_257_151 _ _ _ rfl ?_
      refine hG.2 152 _ [] _ _ _ rfl ?_
      exact hj_152 _ _ _ _ _ _ hf
    · rw [if_neg hc13] at hf
      obtain ⟨hg10, hf⟩ := pb_gd hf
      obtain ⟨⟨r11, h12⟩, cr11, hf⟩ := Option.bind_eq_some_iff.mp hf
      try dsimp only at hf
      refine And.intro hg10 (And.intro (Nat.le_of_ble_eq_true rfl) (And.intro (Nat.le_of_ble_eq_true rfl) (Exists.intro (some (.int r11)) (Exists.intro _ (And.intro (l_256 cr11) (?_))))))
      refine hG.2 152 _ [] _ _ _ rfl ?_
      exact hj_152 _ _ _ _ _ _ hf
  have hj_113 : ∀ (h : pb_HP) (v0 : Nat) (v1 : Int32) (v2 : Int32) (s0 : Int32), f_257_113 N h v0 v1 v2 s0 = some hE → G 113 [(0, .ref v0), (1, .int v1), (2, .int v2)] [.int s0] h := by
    intro h v0 v1 v2 s0 hf
    unfold f_257_113 at hf
    refine hG.1 8 113 kb_257_113 _ _ _ rfl ?_
    refine And.intro (fun (hc15 : ¬ v1 = 3) => ?_) (fun (hc15 : ¬ (¬ v1 = 3)) => ?_)
    · rw [if_pos hc15] at hf
      refine hG.1 9 124 kb_257_124 _ _ _ rfl ?_
      refine And.intro (fun (hc14 : ¬ v1 = 4) => ?_) (fun (hc14 : ¬ (¬ v1 = 4)) => ?_)
      · rw [if_pos hc14] at hf
        refine hG.1 10 133 kb_257_133 _ _ _ rfl ?_
        exact hj_134 _ _ _ _ _ _ _ hf
      · rw [if_neg hc14] at hf
        exact hj_134 _ _ _ _ _ _ _ hf
    · rw [if_neg hc15] at hf
      exact hj_134 _ _ _ _ _ _ _ hf
  have hj_67 : ∀ (h : pb_HP) (v0 : Nat) (v2 : Int32) (s0 : Int32) (s1 : Nat), f_257_67 N h v0 v2 s0 s1 = some hE → G 67 [(0, .ref v0), (2, .int v2)] [.int s0, .ref s1] h := by
    intro h v0 v2 s0 s1 hf
    unfold f_257_67 at hf
    refine hG.1 5 67 kb_257_67 _ _ _ rfl ?_
    obtain ⟨hg24, hf⟩ := pb_gd hf
    obtain ⟨⟨r25, h26⟩, cr25, hf⟩ := Option.bind_eq_some_iff.mp hf
    try dsimp only at hf
    refine And.intro hg24 (And.intro (Nat.le_of_ble_eq_true rfl) (And.intro (Nat.le_of_ble_eq_true rfl) (Exists.intro (some (.int r25)) (Exists.intro _ (And.intro (l_256 cr25) (?_))))))
    obtain ⟨hg27, hf⟩ := pb_gd hf
    obtain ⟨⟨r28, h29⟩, cr28, hf⟩ := Option.bind_eq_some_iff.mp hf
    try dsimp only at hf
    refine And.intro hg27 (And.intro (Nat.le_of_ble_eq_true rfl) (And.intro (Nat.le_of_ble_eq_true rfl) (Exists.intro (some (.int r28)) (Exists.intro _ (And.intro (l_220 cr28) (?_))))))
    refine hG.1 14 156 kb_257_156 _ _ _ rfl ?_
    cases hf
    exact And.intro rfl rfl
  have hj_25 : ∀ (h : pb_HP) (s0 : Int32) (s1 : Nat), f_257_25 N h s0 s1 = some hE → G 25 [] [.int s0, .ref s1] h := by
    intro h s0 s1 hf
    unfold f_257_25 at hf
    refine hG.1 2 25 kb_257_25 _ _ _ rfl ?_
    obtain ⟨hg33, hf⟩ := pb_gd hf
    obtain ⟨⟨r34, h35⟩, cr34, hf⟩ := Option.bind_eq_some_iff.mp hf
    try dsimp only at hf
    refine And.intro hg33 (And.intro (Nat.le_of_ble_eq_true rfl) (And.intro (Nat.le_of_ble_eq_true rfl) (Exists.intro (some (.int r34)) (Exists.intro _ (And.intro (l_220 cr34) (?_))))))
    refine hG.1 14 156 kb_257_156 _ _ _ rfl ?_
    cases hf
    exact And.intro rfl rfl
  unfold f_257 at hf
  refine hG.1 0 0 kb_257_0 _ _ _ rfl ?_
  obtain ⟨hg1, hf⟩ := pb_gd hf
  obtain ⟨⟨r2, h3⟩, cr2, hf⟩ := Option.bind_eq_some_iff.mp hf
  try dsimp only at hf
  refine And.intro hg1 (And.intro (Nat.le_of_ble_eq_true rfl) (And.intro (Nat.le_of_ble_eq_true rfl) (Exists.intro (some (.int r2)) (Exists.intro _ (And.intro (l_256 cr2) (?_))))))
  refine And.intro (fun (hc37 : r2 ≤ 5) => ?_) (fun (hc37 : ¬ (r2 ≤ 5)) => ?_)
  · rw [if_pos hc37] at hf
    refine hG.1 3 35 kb_257_35 _ _ _ rfl ?_
    refine And.intro (fun (hc32 : 3 ≤ r2) => ?_) (fun (hc32 : ¬ (3 ≤ r2)) => ?_)
    · rw [if_pos hc32] at hf
      refine hG.1 6 82 kb_257_82 _ _ _ rfl ?_
      obtain ⟨hg4, hf⟩ := pb_gd hf
      refine And.intro hg4 (?_)
      refine And.intro (fun (hc20 : (pb_I h3 v0 25) ≤ 0) => ?_) (fun (hc20 : ¬ ((pb_I h3 v0 25) ≤ 0)) => ?_)
      · rw [if_pos hc20] at hf
        refine hG.1 14 156 kb_257_156 _ _ _ rfl ?_
        cases hf
        exact And.intro rfl rfl
      · rw [if_neg hc20] at hf
        refine And.intro hg4 (?_)
        obtain ⟨⟨r5, h6⟩, cr5, hf⟩ := Option.bind_eq_some_iff.mp hf
        try dsimp only at hf
        refine And.intro hg4 (And.intro (Nat.le_of_ble_eq_true rfl) (And.intro (Nat.le_of_ble_eq_true rfl) (Exists.intro (some (.int r5)) (Exists.intro _ (And.intro (l_256 cr5) (?_))))))
        refine And.intro (fun (hc19 : 5 ≤ r2) => ?_) (fun (hc19 : ¬ (5 ≤ r2)) => ?_)
        · rw [if_pos hc19] at hf
          refine hG.1 7 112 kb_257_112 _ _ _ rfl ?_
          exact hj_113 _ _ _ _ _ hf
        · rw [if_neg hc19] at hf
          obtain ⟨hg16, hf⟩ := pb_gd hf
          obtain ⟨⟨r17, h18⟩, cr17, hf⟩ := Option.bind_eq_some_iff.mp hf
          try dsimp only at hf
          refine And.intro hg16 (And.intro (Nat.le_of_ble_eq_true rfl) (And.intro (Nat.le_of_ble_eq_true rfl) (Exists.intro (some (.int r17)) (Exists.intro _ (And.intro (l_256 cr17) (?_))))))
          exact hj_113 _ _ _ _ _ hf
    · rw [if_neg hc32] at hf
      obtain ⟨hg21, hf⟩ := pb_gd hf
      refine And.intro hg21 (?_)
      refine And.intro (fun (hc31 : (pb_I h3 v0 24) ≤ 0) => ?_) (fun (hc31 : ¬ ((pb_I h3 v0 24) ≤ 0)) => ?_)
      · rw [if_pos hc31] at hf
        refine hG.1 14 156 kb_257_156 _ _ _ rfl ?_
        cases hf
        exact And.intro rfl rfl
      · rw [if_neg hc31] at hf
        refine And.intro hg21 (?_)
        obtain ⟨⟨r22, h23⟩, cr22, hf⟩ := Option.bind_eq_some_iff.mp hf
        try dsimp only at hf
        refine And.intro hg21 (And.intro (Nat.le_of_ble_eq_true rfl) (And.intro (Nat.le_of_ble_eq_true rfl) (Exists.intro (some (.int r22)) (Exists.intro _ (And.intro (l_256 cr22) (?_))))))
        refine And.intro (fun (hc30 : ¬ r2 = 2) => ?_) (fun (hc30 : ¬ (¬ r2 = 2)) => ?_)
        · rw [if_pos hc30] at hf
          refine hG.1 4 66 kb_257_66 _ _ _ rfl ?_
          refine hG.2 67 _ [0, 2] _ _ _ rfl ?_
          exact hj_67 _ _ _ _ _ hf
        · rw [if_neg hc30] at hf
          refine hG.2 67 _ [0, 2] _ _ _ rfl ?_
          exact hj_67 _ _ _ _ _ hf
  · rw [if_neg hc37] at hf
    refine And.intro (fun (hc36 : r2 ≤ 7) => ?_) (fun (hc36 : ¬ (r2 ≤ 7)) => ?_)
    · rw [if_pos hc36] at hf
      refine hG.1 1 24 kb_257_24 _ _ _ rfl ?_
      refine hG.2 25 _ [] _ _ _ rfl ?_
      exact hj_25 _ _ _ hf
    · rw [if_neg hc36] at hf
      refine hG.2 25 _ [] _ _ _ rfl ?_
      exact hj_25 _ _ _ hf
def f_222_2s (N : Nat) (v0 : Nat) (v1 : Int32) (s : Int32 × pb_HP) : Option ((Int32 × pb_HP) ⊕ (Int32 × pb_HP)) :=
  if v1 ≤ s.1 then (some (.inr ((s.1, s.2)))) else (if pb_is s.2 v0 11 then ((f_221 N s.2 v0 s.1).bind fun (r2, h3) => (if r2 = 0 then (some (.inr ((s.1, h3)))) else (some (.inl ((s.1 + 1, h3)))))) else none)
/-- PointedBenchModel.play -/
def f_222 (N : Nat) (h : pb_HP) (v0 : Nat) (v1 : Int32) : Option (Int32 × pb_HP) :=
  (pb_wl (f_222_2s N v0 v1) N ((0, h))).bind fun e6 => (some ((e6.1, e6.2)))
set_option maxRecDepth 4000 in
theorem l_222 {xs : List Int32} {d : Nat} {N : Nat} {h : pb_HP} {v0 : Nat} {v1 : Int32} {r : Int32} {hE : pb_HP} (hf : f_222 N h v0 v1 = some ((r, hE))) : pb_AR xs (d + 9) 222 h [.ref v0, .int v1] (some (.int r)) hE := by
  intro G hG
  have hc_ : pb_CODE 222 = kc_222 := rfl
  rw [hc_] at hG
  have hl_2 : ∀ (v0 : Nat) (v1 : Int32) (n_ : Nat) (s : Int32 × pb_HP) (e : Int32 × pb_HP), pb_wl (f_222_2s N v0 v1) n_ s = some e → G 21 [(2, .int e.1)] [] e.2 → G 2 [(0, .ref v0), (1, .int v1), (2, .int s.1)] [] s.2 := by
    intro v0 v1
    refine pb_wl_ind (I := fun (s : Int32 × pb_HP) => G 2 [(0, .ref v0), (1, .int v1), (2, .int s.1)] [] s.2) (K := fun (e : Int32 × pb_HP) => G 21 [(2, .int e.1)] [] e.2) (fun s x hf hk => ?_)
    unfold f_222_2s at hf
    refine hG.1 1 2 kb_222_2 _ _ _ rfl ?_
    refine And.intro (fun (hc5 : v1 ≤ s.1) => ?_) (fun (hc5 : ¬ (v1 ≤ s.1)) => ?_)
    · rw [if_pos hc5] at hf
      cases hf
      exact hG.2 21 _ [2] _ _ _ rfl hk
    · rw [if_neg hc5] at hf
      obtain ⟨hg1, hf⟩ := pb_gd hf
      obtain ⟨⟨r2, h3⟩, cr2, hf⟩ := Option.bind_eq_some_iff.mp hf
      try dsimp only at hf
      refine And.intro hg1 (And.intro (Nat.le_of_ble_eq_true rfl) (And.intro (Nat.le_of_ble_eq_true rfl) (Exists.intro (some (.int r2)) (Exists.intro _ (And.intro (l_221 cr2) (?_))))))
      refine And.intro (fun (hc4 : r2 = 0) => ?_) (fun (hc4 : ¬ (r2 = 0)) => ?_)
      · rw [if_pos hc4] at hf
        cases hf
        exact hG.2 21 _ [2] _ _ _ rfl hk
      · rw [if_neg hc4] at hf
        cases hf
        exact hk
  unfold f_222 at hf
  refine hG.1 0 0 kb_222_0 _ _ _ rfl ?_
  obtain ⟨e6, he_e6, hf⟩ := Option.bind_eq_some_iff.mp hf
  refine hl_2 _ _ _ _ _ he_e6 ?_
  refine hG.1 2 21 kb_222_21 _ _ _ rfl ?_
  cases hf
  exact And.intro (fun z_ => absurd z_ (by decide)) (And.intro rfl rfl)
def f_258_33s (N : Nat) (v0 : Nat) (v3 : Int32) (v4 : Int32) (s : Int32 × pb_HP) : Option ((Int32 × pb_HP) ⊕ (pb_HP)) :=
  if v3 ≤ s.1 then (some (.inr s.2)) else (if pb_is s.2 v0 11 then ((f_257 N s.2 v0).bind fun h8 => (some (.inl ((s.1 + 1, h8))))) else none)
/-- PointedBenchModel.drawn -/
def f_258 (N : Nat) (h : pb_HP) (v0 : Nat) (v1 : Int32) (v2 : Int32) (v3 : Int32) (v4 : Int32) : Option (Int32 × pb_HP) :=
  if pb_is h v0 11 then ((f_168 v3 0 60).bind fun r2 => (if r2 = 0 then (some (((-1), pb_pI h v0 0 0))) else ((f_198 N (pb_pI h v0 0 0) v0 v1).bind fun (r3, h4) => (if ¬ r3 = 0 then (if pb_is h4 v0 11 then ((pb_wl (f_258_33s N v0 v3 v4) N ((0, pb_pI h4 v0 42 v2))).bind fun e10 => (if pb_is e10 v0 11 then ((f_226 N e10 v0 v4).bind fun (r12, h13) => (some ((r12, h13)))) else none)) else none) else (some (((-1), h4))))))) else none
set_option maxRecDepth 4000 in
theorem l_258 {xs : List Int32} {d : Nat} {N : Nat} {h : pb_HP} {v0 : Nat} {v1 : Int32} {v2 : Int32} {v3 : Int32} {v4 : Int32} {r : Int32} {hE : pb_HP} (hf : f_258 N h v0 v1 v2 v3 v4 = some ((r, hE))) : pb_AR xs (d + 9) 258 h [.ref v0, .int v1, .int v2, .int v3, .int v4] (some (.int r)) hE := by
  intro G hG
  have hc_ : pb_CODE 258 = kc_258 := rfl
  rw [hc_] at hG
  have hl_33 : ∀ (v0 : Nat) (v3 : Int32) (v4 : Int32) (n_ : Nat) (s : Int32 × pb_HP) (e : pb_HP), pb_wl (f_258_33s N v0 v3 v4) n_ s = some e → G 49 [(0, .ref v0), (4, .int v4)] [] e → G 33 [(0, .ref v0), (3, .int v3), (4, .int v4), (5, .int s.1)] [] s.2 := by
    intro v0 v3 v4
    refine pb_wl_ind (I := fun (s : Int32 × pb_HP) => G 33 [(0, .ref v0), (3, .int v3), (4, .int v4), (5, .int s.1)] [] s.2) (K := fun (e : pb_HP) => G 49 [(0, .ref v0), (4, .int v4)] [] e) (fun s x hf hk => ?_)
    unfold f_258_33s at hf
    refine hG.1 3 33 kb_258_33 _ _ _ rfl ?_
    refine And.intro (fun (hc9 : v3 ≤ s.1) => ?_) (fun (hc9 : ¬ (v3 ≤ s.1)) => ?_)
    · rw [if_pos hc9] at hf
      cases hf
      exact hG.2 49 _ [0, 2] _ _ _ rfl hk
    · rw [if_neg hc9] at hf
      obtain ⟨hg6, hf⟩ := pb_gd hf
      obtain ⟨h8, cr7, hf⟩ := Option.bind_eq_some_iff.mp hf
      refine And.intro hg6 (And.intro (Nat.le_of_ble_eq_true rfl) (And.intro (Nat.le_of_ble_eq_true rfl) (Exists.intro none (Exists.intro _ (And.intro (l_257 cr7) (?_))))))
      cases hf
      exact hk
  unfold f_258 at hf
  refine hG.1 0 0 kb_258_0 _ _ _ rfl ?_
  obtain ⟨hg1, hf⟩ := pb_gd hf
  refine And.intro hg1 (?_)
  obtain ⟨r2, cr2, hf⟩ := Option.bind_eq_some_iff.mp hf
  refine And.intro (Nat.le_of_ble_eq_true rfl) (And.intro (Nat.le_of_ble_eq_true rfl) (And.intro (Nat.le_of_ble_eq_true rfl) (Exists.intro (some (.int r2)) (Exists.intro _ (And.intro (l_168 cr2) (?_))))))
  refine And.intro (fun (hc15 : r2 = 0) => ?_) (fun (hc15 : ¬ (r2 = 0)) => ?_)
  · rw [if_pos hc15] at hf
    refine hG.1 1 23 kb_258_23 _ _ _ rfl ?_
    cases hf
    exact And.intro (fun z_ => absurd z_ (by decide)) (And.intro rfl rfl)
  · rw [if_neg hc15] at hf
    obtain ⟨⟨r3, h4⟩, cr3, hf⟩ := Option.bind_eq_some_iff.mp hf
    try dsimp only at hf
    refine And.intro hg1 (And.intro (Nat.le_of_ble_eq_true rfl) (And.intro (Nat.le_of_ble_eq_true rfl) (Exists.intro (some (.int r3)) (Exists.intro _ (And.intro (l_198 cr3) (?_))))))
    refine And.intro (fun (hc14 : ¬ r3 = 0) => ?_) (fun (hc14 : ¬ (¬ r3 = 0)) => ?_)
    · rw [if_pos hc14] at hf
      refine hG.1 2 25 kb_258_25 _ _ _ rfl ?_
      obtain ⟨hg5, hf⟩ := pb_gd hf
      refine And.intro hg5 (?_)
      obtain ⟨e10, he_e10, hf⟩ := Option.bind_eq_some_iff.mp hf
      refine hG.2 33 _ [0, 3, 4, 5] _ _ _ rfl ?_
      refine hl_33 _ _ _ _ _ _ he_e10 ?_
      refine hG.1 4 49 kb_258_49 _ _ _ rfl ?_
      obtain ⟨hg11, hf⟩ := pb_gd hf
      obtain ⟨⟨r12, h13⟩, cr12, hf⟩ := Option.bind_eq_some_iff.mp hf
      try dsimp only at hf
      refine And.intro hg11 (And.intro (Nat.le_of_ble_eq_true rfl) (And.intro (Nat.le_of_ble_eq_true rfl) (Exists.intro (some (.int r12)) (Exists.intro _ (And.intro (l_226 cr12) (?_))))))
      cases hf
      exact And.intro (fun z_ => absurd z_ (by decide)) (And.intro rfl rfl)
    · rw [if_neg hc14] at hf
      refine hG.1 1 23 kb_258_23 _ _ _ rfl ?_
      cases hf
      exact And.intro (fun z_ => absurd z_ (by decide)) (And.intro rfl rfl)
def f_297_23s (N : Nat) (v0 : Nat) (v1 : Int32) (v2 : Int32) (v3 : Int32) (v4 : Int32) (s : Int32 × pb_HP) : Option ((Int32 × pb_HP) ⊕ (pb_HP)) :=
  if 6 ≤ s.1 then (some (.inr s.2)) else (if pb_is s.2 v0 11 then ((pb_R s.2 v0 46).bind fun q7 => ((pb_R s.2 v0 35).bind fun q8 => (if pb_ar s.2 q8 12 s.1 then (if pb_ar s.2 q7 12 s.1 then (some (.inl ((s.1 + 1, pb_pI s.2 q7 s.1.toNatClampNeg (pb_I s.2 q8 s.1.toNatClampNeg))))) else none) else none))) else none)
def f_297_104 (N : Nat) (h : pb_HP) (v0 : Nat) (v1 : Int32) (v2 : Int32) (v3 : Int32) (v4 : Int32) (v5 : Int32) (s0 : Int32) (s1 : Int32) (s2 : Int32) (s3 : Nat) : Option ((Int32 × pb_HP) ⊕ (pb_HP)) :=
  if pb_ar h s3 12 s2 then (some (.inl ((v5 + 1, pb_pI h s3 s2.toNatClampNeg (s1 + s0))))) else none
def f_297_67s (N : Nat) (v0 : Nat) (v1 : Int32) (v2 : Int32) (v3 : Int32) (v4 : Int32) (s : Int32 × pb_HP) : Option ((Int32 × pb_HP) ⊕ (pb_HP)) :=
  if 6 ≤ s.1 then (some (.inr s.2)) else (if pb_is s.2 v0 11 then ((pb_R s.2 v0 45).bind fun q20 => (if pb_ar s.2 q20 12 s.1 then ((pb_R s.2 v0 35).bind fun q22 => (if pb_ar s.2 q22 12 s.1 then ((pb_R s.2 v0 46).bind fun q24 => (if pb_ar s.2 q24 12 s.1 then (if (pb_I s.2 q22 s.1.toNatClampNeg) = (pb_I s.2 q24 s.1.toNatClampNeg) then (f_297_104 N s.2 v0 v1 v2 v3 v4 s.1 0 (pb_I s.2 q20 s.1.toNatClampNeg) s.1 q20) else (f_297_104 N s.2 v0 v1 v2 v3 v4 s.1 1 (pb_I s.2 q20 s.1.toNatClampNeg) s.1 q20)) else none)) else none)) else none)) else none)
def f_297_204 (N : Nat) (h : pb_HP) (v0 : Nat) (v1 : Int32) (v2 : Int32) (s0 : Int32) (s1 : Int32) (s2 : Nat) : Option (Int32 × pb_HP) :=
  if pb_is h s2 11 then (if pb_is h v0 11 then ((f_213 (pb_pI h s2 50 (s1 + s0)) v0 v1 0).bind fun r42 => (if ¬ r42 = 6 then (some ((1, pb_pI h s2 50 (s1 + s0)))) else (if 6 ≤ v2 then (some ((1, pb_pI h s2 50 (s1 + s0)))) else ((pb_R h v0 44).bind fun q43 => (if pb_ar h q43 12 v2 then (some ((1, pb_pI (pb_pI h s2 50 (s1 + s0)) q43 v2.toNatClampNeg ((pb_I (pb_pI h s2 50 (s1 + s0)) q43 v2.toNatClampNeg) + 1)))) else none))))) else none) else none
def f_297_181 (N : Nat) (h : pb_HP) (v0 : Nat) (v1 : Int32) (v2 : Int32) (v4 : Int32) (s0 : Int32) (s1 : Int32) (s2 : Nat) : Option (Int32 × pb_HP) :=
  if pb_is h s2 11 then (if pb_is h v0 11 then ((f_296 N (pb_pI h s2 49 (s1 + s0)) v0).bind fun r39 => (if r39 ≤ v4 then (f_297_204 N (pb_pI h s2 49 (s1 + s0)) v0 v1 v2 0 (pb_I (pb_pI h s2 49 (s1 + s0)) v0 50) v0) else (f_297_204 N (pb_pI h s2 49 (s1 + s0)) v0 v1 v2 1 (pb_I (pb_pI h s2 49 (s1 + s0)) v0 50) v0))) else none) else none
def f_297_159 (N : Nat) (h : pb_HP) (v0 : Nat) (v1 : Int32) (v2 : Int32) (v3 : Int32) (v4 : Int32) (s0 : Int32) (s1 : Int32) (s2 : Nat) : Option (Int32 × pb_HP) :=
  if pb_is h s2 11 then (if pb_is h v0 11 then ((f_295 N (pb_pI h s2 48 (s1 + s0)) v0).bind fun r36 => (if r36 ≤ v3 then (f_297_181 N (pb_pI h s2 48 (s1 + s0)) v0 v1 v2 v4 0 (pb_I (pb_pI h s2 48 (s1 + s0)) v0 49) v0) else (f_297_181 N (pb_pI h s2 48 (s1 + s0)) v0 v1 v2 v4 1 (pb_I (pb_pI h s2 48 (s1 + s0)) v0 49) v0))) else none) else none
def f_297_138 (N : Nat) (h : pb_HP) (v0 : Nat) (v1 : Int32) (v2 : Int32) (v3 : Int32) (v4 : Int32) (s0 : Int32) (s1 : Nat) : Option (Int32 × pb_HP) :=
  if pb_is h s1 11 then (if pb_is h v0 11 then (if (pb_I (pb_pI h s1 47 s0) v0 27) = v2 then (f_297_159 N (pb_pI h s1 47 s0) v0 v1 v2 v3 v4 0 (pb_I (pb_pI h s1 47 s0) v0 48) v0) else (f_297_159 N (pb_pI h s1 47 s0) v0 v1 v2 v3 v4 1 (pb_I (pb_pI h s1 47 s0) v0 48) v0)) else none) else none
def f_297_134 (N : Nat) (h : pb_HP) (v0 : Nat) (v1 : Int32) (v2 : Int32) (v3 : Int32) (v4 : Int32) (s0 : Nat) : Option (Int32 × pb_HP) :=
  if pb_is h v0 11 then (f_297_138 N h v0 v1 v2 v3 v4 (pb_I h v0 47) s0) else none
/-- PointedBenchModel.looks -/
def f_297 (N : Nat) (h : pb_HP) (v0 : Nat) (v1 : Int32) : Option (Int32 × pb_HP) :=
  if pb_is h v0 11 then ((f_295 N h v0).bind fun r2 => ((f_296 N h v0).bind fun r3 => ((f_208 N h v0).bind fun h5 => ((pb_wl (f_297_23s N v0 v1 (pb_I h v0 27) r2 r3) N ((0, h5))).bind fun e12 => (if pb_is e12 v0 11 then ((f_221 N e12 v0 v1).bind fun (r14, h15) => (if ¬ r14 = 0 then (if pb_is h15 v0 11 then ((f_208 N h15 v0).bind fun h18 => ((pb_wl (f_297_67s N v0 v1 (pb_I h v0 27) r2 r3) N ((0, h18))).bind fun e29 => (if pb_is e29 v0 11 then (if ¬ (pb_I e29 v0 47) = ((-1)) then (f_297_134 N e29 v0 v1 (pb_I h v0 27) r2 r3 v0) else (if 6 ≤ (pb_I e29 v0 27) then (f_297_134 N e29 v0 v1 (pb_I h v0 27) r2 r3 v0) else (f_297_138 N e29 v0 v1 (pb_I h v0 27) r2 r3 v1 v0))) else none))) else none) else (some ((0, h15))))) else none))))) else none
set_option maxRecDepth 4000 in
theorem l_297 {xs : List Int32} {d : Nat} {N : Nat} {h : pb_HP} {v0 : Nat} {v1 : Int32} {r : Int32} {hE : pb_HP} (hf : f_297 N h v0 v1 = some ((r, hE))) : pb_AR xs (d + 9) 297 h [.ref v0, .int v1] (some (.int r)) hE := by
  intro G hG
  have hc_ : pb_CODE 297 = kc_297 := rfl
  rw [hc_] at hG
  have hl_23 : ∀ (v0 : Nat) (v1 : Int32) (v2 : Int32) (v3 : Int32) (v4 : Int32) (n_ : Nat) (s : Int32 × pb_HP) (e : pb_HP), pb_wl (f_297_23s N v0 v1 v2 v3 v4) n_ s = some e → G 50 [(0, .ref v0), (1, .int v1), (2, .int v2), (3, .int v3), (4, .int v4)] [] e → G 23 [(0, .ref v0), (1, .int v1), (2, .int v2), (3, .int v3), (4, .int v4), (5, .int s.1)] [] s.2 := by
    intro v0 v1 v2 v3 v4
    refine pb_wl_ind (I := fun (s : Int32 × pb_HP) => G 23 [(0, .ref v0), (1, .int v1), (2, .int v2), (3, .int v3), (4, .int v4), (5, .int s.1)] [] s.2) (K := fun (e : pb_HP) => G 50 [(0, .ref v0), (1, .int v1), (2, .int v2), (3, .int v3), (4, .int v4)] [] e) (fun s x hf hk => ?_)
    unfold f_297_23s at hf
    refine hG.1 1 23 kb_297_23 _ _ _ rfl ?_
    refine And.intro (fun (hc11 : 6 ≤ s.1) => ?_) (fun (hc11 : ¬ (6 ≤ s.1)) => ?_)
    · rw [if_pos hc11] at hf
      cases hf
      exact hG.2 50 _ [0, 1, 2, 3, 4] _ _ _ rfl hk
    · rw [if_neg hc11] at hf
      obtain ⟨hg6, hf⟩ := pb_gd hf
      obtain ⟨q7, eq7, hf⟩ := Option.bind_eq_some_iff.mp hf
      obtain ⟨q8, eq8, hf⟩ := Option.bind_eq_some_iff.mp hf
      obtain ⟨hg9, hf⟩ := pb_gd hf
      obtain ⟨hg10, hf⟩ := pb_gd hf
      refine And.intro hg6 (Exists.intro q7 (And.intro eq7 (And.intro hg6 (Exists.intro q8 (And.intro eq8 (And.intro hg9 (And.intro hg10 (?_))))))))
      cases hf
      exact hk
  have hj_104 : ∀ (h : pb_HP) (v0 : Nat) (v1 : Int32) (v2 : Int32) (v3 : Int32) (v4 : Int32) (v5 : Int32) (s0 : Int32) (s1 : Int32) (s2 : Int32) (s3 : Nat) x, f_297_104 N h v0 v1 v2 v3 v4 v5 s0 s1 s2 s3 = some x → pb_kk (fun (s_ : Int32 × pb_HP) => G 67 [(0, .ref v0), (1, .int v1), (2, .int v2), (3, .int v3), (4, .int v4), (5, .int s_.1)] [] s_.2) (fun (e_ : pb_HP) => G 112 [(0, .ref v0), (1, .int v1), (2, .int v2), (3, .int v3), (4, .int v4)] [] e_) x → G 104 [(0, .ref v0), (1, .int v1), (2, .int v2), (3, .int v3), (4, .int v4), (5, .int v5)] [.int s0, .int s1, .int s2, .ref s3] h := by
    intro h v0 v1 v2 v3 v4 v5 s0 s1 s2 s3 x hf hk
    unfold f_297_104 at hf
    refine hG.1 6 104 kb_297_104 _ _ _ rfl ?_
    obtain ⟨hg26, hf⟩ := pb_gd hf
    refine And.intro hg26 (?_)
    cases hf
    exact hk
  have hl_67 : ∀ (v0 : Nat) (v1 : Int32) (v2 : Int32) (v3 : Int32) (v4 : Int32) (n_ : Nat) (s : Int32 × pb_HP) (e : pb_HP), pb_wl (f_297_67s N v0 v1 v2 v3 v4) n_ s = some e → G 112 [(0, .ref v0), (1, .int v1), (2, .int v2), (3, .int v3), (4, .int v4)] [] e → G 67 [(0, .ref v0), (1, .int v1), (2, .int v2), (3, .int v3), (4, .int v4), (5, .int s.1)] [] s.2 := by
    intro v0 v1 v2 v3 v4
    refine pb_wl_ind (I := fun (s : Int32 × pb_HP) => G 67 [(0, .ref v0), (1, .int v1), (2, .int v2), (3, .int v3), (4, .int v4), (5, .int s.1)] [] s.2) (K := fun (e : pb_HP) => G 112 [(0, .ref v0), (1, .int v1), (2, .int v2), (3, .int v3), (4, .int v4)] [] e) (fun s x hf hk => ?_)
    unfold f_297_67s at hf
    refine hG.1 4 67 kb_297_67 _ _ _ rfl ?_
    refine And.intro (fun (hc28 : 6 ≤ s.1) => ?_) (fun (hc28 : ¬ (6 ≤ s.1)) => ?_)
    · rw [if_pos hc28] at hf
      cases hf
      exact hG.2 112 _ [0, 1, 2, 3, 4] _ _ _ rfl hk
    · rw [if_neg hc28] at hf
      obtain ⟨hg19, hf⟩ := pb_gd hf
      obtain ⟨q20, eq20, hf⟩ := Option.bind_eq_some_iff.mp hf
      obtain ⟨hg21, hf⟩ := pb_gd hf
      obtain ⟨q22, eq22, hf⟩ := Option.bind_eq_some_iff.mp hf
      obtain ⟨hg23, hf⟩ := pb_gd hf
      obtain ⟨q24, eq24, hf⟩ := Option.bind_eq_some_iff.mp hf
      obtain ⟨hg25, hf⟩ := pb_gd hf
      refine And.intro hg19 (Exists.intro q20 (And.intro eq20 (And.intro hg21 (And.intro hg19 (Exists.intro q22 (And.intro eq22 (And.intro hg23 (And.intro hg19 (Exists.intro q24 (And.intro eq24 (And.intro hg25 (?_))))))))))))
      refine And.intro (fun (hc27 : (pb_I s.2 q22 s.1.toNatClampNeg) = (pb_I s.2 q24 s.1.toNatClampNeg)) => ?_) (fun (hc27 : ¬ ((pb_I s.2 q22 s.1.toNatClampNeg) = (pb_I s.2 q24 s.1.toNatClampNeg))) => ?_)
      · rw [if_pos hc27] at hf
        refine hG.1 5 103 kb_297_103 _ _ _ rfl ?_
        exact hj_104 _ _ _ _ _ _ _ _ _ _ _ _ hf hk
      · rw [if_neg hc27] at hf
        exact hj_104 _ _ _ _ _ _ _ _ _ _ _ _ hf hk
  have hj_204 : ∀ (h : pb_HP) (v0 : Nat) (v1 : Int32) (v2 : Int32) (s0 : Int32) (s1 : Int32) (s2 : Nat), f_297_204 N h v0 v1 v2 s0 s1 s2 = some ((r, hE)) → G 204 [(0, .ref v0), (1, .int v1), (2, .int v2)] [.int s0, .int s1, .ref s2] h := by
    intro h v0 v1 v2 s0 s1 s2 hf
    unfold f_297_204 at hf
    refine hG.1 15 204 kb_297_204 _ _ _ rfl ?_
    obtain ⟨hg40, hf⟩ := pb_gd hf
    obtain ⟨hg41, hf⟩ := pb_gd hf
    refine And.intro hg40 (?_)
    obtain ⟨r42, cr42, hf⟩ := Option.bind_eq_some_iff.mp hf
    refine And.intro hg41 (And.intro (Nat.le_of_ble_eq_true rfl) (And.intro (Nat.le_of_ble_eq_true rfl) (Exists.intro (some (.int r42)) (Exists.intro _ (And.intro (l_213 cr42) (?_))))))
    refine And.intro (fun (hc46 : ¬ r42 = 6) => ?_) (fun (hc46 : ¬ (¬ r42 = 6)) => ?_)
    · rw [if_pos hc46] at hf
      refine hG.1 16 235 kb_297_235 _ _ _ rfl ?_
      cases hf
      exact And.intro (fun _ => Or.inr rfl) (And.intro rfl rfl)
    · rw [if_neg hc46] at hf
      refine And.intro (fun (hc45 : 6 ≤ v2) => ?_) (fun (hc45 : ¬ (6 ≤ v2)) => ?_)
      · rw [if_pos hc45] at hf
        refine hG.1 16 235 kb_297_235 _ _ _ rfl ?_
        cases hf
        exact And.intro (fun _ => Or.inr rfl) (And.intro rfl rfl)
      · rw [if_neg hc45] at hf
        obtain ⟨q43, eq43, hf⟩ := Option.bind_eq_some_iff.mp hf
        obtain ⟨hg44, hf⟩ := pb_gd hf
        refine And.intro hg41 (Exists.intro q43 (And.intro eq43 (And.intro hg44 (And.intro hg44 (?_)))))
        refine hG.1 16 235 kb_297_235 _ _ _ rfl ?_
        cases hf
        exact And.intro (fun _ => Or.inr rfl) (And.intro rfl rfl)
  have hj_181 : ∀ (h : pb_HP) (v0 : Nat) (v1 : Int32) (v2 : Int32) (v4 : Int32) (s0 : Int32) (s1 : Int32) (s2 : Nat), f_297_181 N h v0 v1 v2 v4 s0 s1 s2 = some ((r, hE)) → G 181 [(0, .ref v0), (1, .int v1), (2, .int v2), (4, .int v4)] [.int s0, .int s1, .ref s2] h := by
    intro h v0 v1 v2 v4 s0 s1 s2 hf
    unfold f_297_181 at hf
    refine hG.1 13 181 kb_297_181 _ _ _ rfl ?_
    obtain ⟨hg37, hf⟩ := pb_gd hf
    obtain ⟨hg38, hf⟩ := pb_gd hf
    refine And.intro hg37 (And.intro hg38 (?_))
    obtain ⟨r39, cr39, hf⟩ := Option.bind_eq_some_iff.mp hf
    refine And.intro hg38 (And.intro (Nat.le_of_ble_eq_true rfl) (And.intro (Nat.le_of_ble_eq_true rfl) (Exists.intro (some (.int r39)) (Exists.intro _ (And.intro (l_296 cr39) (?_))))))
    refine And.intro (fun (hc47 : r39 ≤ v4) => ?_) (fun (hc47 : ¬ (r39 ≤ v4)) => ?_)
    · rw [if_pos hc47] at hf
      refine hG.1 14 203 kb_297_203 _ _ _ rfl ?_
      refine hG.2 204 _ [0, 1, 2] _ _ _ rfl ?_
      exact hj_204 _ _ _ _ _ _ _ hf
    · rw [if_neg hc47] at hf
      refine hG.2 204 _ [0, 1, 2] _ _ _ rfl ?_
      exact hj_204 _ _ _ _ _ _ _ hf
  have hj_159 : ∀ (h : pb_HP) (v0 : Nat) (v1 : Int32) (v2 : Int32) (v3 : Int32) (v4 : Int32) (s0 : Int32) (s1 : Int32) (s2 : Nat), f_297_159 N h v0 v1 v2 v3 v4 s0 s1 s2 = some ((r, hE)) → G 159 [(0, .ref v0), (1, .int v1), (2, .int v2), (3, .int v3), (4, .int v4)] [.int s0, .int s1, .ref s2] h := by
    intro h v0 v1 v2 v3 v4 s0 s1 s2 hf
    unfold f_297_159 at hf
    refine hG.1 11 159 kb_297_159 _ _ _ rfl ?_
    obtain ⟨hg34, hf⟩ := pb_gd hf
    obtain ⟨hg35, hf⟩ := pb_gd hf
    refine And.intro hg34 (And.intro hg35 (?_))
    obtain ⟨r36, cr36, hf⟩ := Option.bind_eq_some_iff.mp hf
    refine And.intro hg35 (And.intro (Nat.le_of_ble_eq_true rfl) (And.intro (Nat.le_of_ble_eq_true rfl) (Exists.intro (some (.int r36)) (Exists.intro _ (And.intro (l_295 cr36) (?_))))))
    refine And.intro (fun (hc48 : r36 ≤ v3) => ?_) (fun (hc48 : ¬ (r36 ≤ v3)) => ?_)
    · rw [if_pos hc48] at hf
      refine hG.1 12 180 kb_297_180 _ _ _ rfl ?_
      refine hG.2 181 _ [0, 1, 2, 4] _ _ _ rfl ?_
      exact hj_181 _ _ _ _ _ _ _ _ hf
    · rw [if_neg hc48] at hf
      refine hG.2 181 _ [0, 1, 2, 4] _ _ _ rfl ?_
      exact hj_181 _ _ _ _ _ _ _ _ hf
  have hj_138 : ∀ (h : pb_HP) (v0 : Nat) (v1 : Int32) (v2 : Int32) (v3 : Int32) (v4 : Int32) (s0 : Int32) (s1 : Nat), f_297_138 N h v0 v1 v2 v3 v4 s0 s1 = some ((r, hE)) → G 138 [(0, .ref v0), (1, .int v1), (2, .int v2), (3, .int v3), (4, .int v4)] [.int s0, .ref s1] h := by
    intro h v0 v1 v2 v3 v4 s0 s1 hf
    unfold f_297_138 at hf
    refine hG.1 9 138 kb_297_138 _ _ _ rfl ?_
    obtain ⟨hg32, hf⟩ := pb_gd hf
    obtain ⟨hg33, hf⟩ := pb_gd hf
    refine And.intro hg32 (And.intro hg33 (And.intro hg33 (?_)))
    refine And.intro (fun (hc49 : (pb_I (pb_pI h s1 47 s0) v0 27) = v2) => ?_) (fun (hc49 : ¬ ((pb_I (pb_pI h s1 47 s0) v0 27) = v2)) => ?_)
    · rw [if_pos hc49] at hf
      refine hG.1 10 158 kb_297_158 _ _ _ rfl ?_
      exact hj_159 _ _ _ _ _ _ _ _ _ hf
    · rw [if_neg hc49] at hf
      exact hj_159 _ _ _ _ _ _ _ _ _ hf
  have hj_134 : ∀ (h : pb_HP) (v0 : Nat) (v1 : Int32) (v2 : Int32) (v3 : Int32) (v4 : Int32) (s0 : Nat), f_297_134 N h v0 v1 v2 v3 v4 s0 = some ((r, hE)) → G 134 [(0, .ref v0), (1, .int v1), (2, .int v2), (3, .int v3), (4, .int v4)] [.ref s0] h := by
    intro h v0 v1 v2 v3 v4 s0 hf
    unfold f_297_134 at hf
    refine hG.1 8 134 kb_297_134 _ _ _ rfl ?_
    obtain ⟨hg31, hf⟩ := pb_gd hf
    refine And.intro hg31 (?_)
    exact hj_138 _ _ _ _ _ _ _ _ hf
  unfold f_297 at hf
  refine hG.1 0 0 kb_297_0 _ _ _ rfl ?_
  obtain ⟨hg1, hf⟩ := pb_gd hf
  refine And.intro hg1 (?_)
  obtain ⟨r2, cr2, hf⟩ := Option.bind_eq_some_iff.mp hf
  refine And.intro hg1 (And.intro (Nat.le_of_ble_eq_true rfl) (And.intro (Nat.le_of_ble_eq_true rfl) (Exists.intro (some (.int r2)) (Exists.intro _ (And.intro (l_295 cr2) (?_))))))
  obtain ⟨r3, cr3, hf⟩ := Option.bind_eq_some_iff.mp hf
  refine And.intro hg1 (And.intro (Nat.le_of_ble_eq_true rfl) (And.intro (Nat.le_of_ble_eq_true rfl) (Exists.intro (some (.int r3)) (Exists.intro _ (And.intro (l_296 cr3) (?_))))))
  obtain ⟨h5, cr4, hf⟩ := Option.bind_eq_some_iff.mp hf
  refine And.intro hg1 (And.intro (Nat.le_of_ble_eq_true rfl) (And.intro (Nat.le_of_ble_eq_true rfl) (Exists.intro none (Exists.intro _ (And.intro (l_208 cr4) (?_))))))
  obtain ⟨e12, he_e12, hf⟩ := Option.bind_eq_some_iff.mp hf
  refine hl_23 _ _ _ _ _ _ _ _ he_e12 ?_
  refine hG.1 2 50 kb_297_50 _ _ _ rfl ?_
  obtain ⟨hg13, hf⟩ := pb_gd hf
  obtain ⟨⟨r14, h15⟩, cr14, hf⟩ := Option.bind_eq_some_iff.mp hf
  try dsimp only at hf
  refine And.intro hg13 (And.intro (Nat.le_of_ble_eq_true rfl) (And.intro (Nat.le_of_ble_eq_true rfl) (Exists.intro (some (.int r14)) (Exists.intro _ (And.intro (l_221 cr14) (?_))))))
  refine And.intro (fun (hc52 : ¬ r14 = 0) => ?_) (fun (hc52 : ¬ (¬ r14 = 0)) => ?_)
  · rw [if_pos hc52] at hf
    refine hG.1 3 60 kb_297_60 _ _ _ rfl ?_
    obtain ⟨hg16, hf⟩ := pb_gd hf
    obtain ⟨h18, cr17, hf⟩ := Option.bind_eq_some_iff.mp hf
    refine And.intro hg16 (And.intro (Nat.le_of_ble_eq_true rfl) (And.intro (Nat.le_of_ble_eq_true rfl) (Exists.intro none (Exists.intro _ (And.intro (l_208 cr17) (?_))))))
    obtain ⟨e29, he_e29, hf⟩ := Option.bind_eq_some_iff.mp hf
    refine hl_67 _ _ _ _ _ _ _ _ he_e29 ?_
    refine hG.1 7 112 kb_297_112 _ _ _ rfl ?_
    obtain ⟨hg30, hf⟩ := pb_gd hf
    refine And.intro hg30 (?_)
    refine And.intro (fun (hc51 : ¬ (pb_I e29 v0 47) = ((-1))) => ?_) (fun (hc51 : ¬ (¬ (pb_I e29 v0 47) = ((-1)))) => ?_)
    · rw [if_pos hc51] at hf
      exact hj_134 _ _ _ _ _ _ _ hf
    · rw [if_neg hc51] at hf
      refine And.intro hg30 (?_)
      refine And.intro (fun (hc50 : 6 ≤ (pb_I e29 v0 27)) => ?_) (fun (hc50 : ¬ (6 ≤ (pb_I e29 v0 27))) => ?_)
      · rw [if_pos hc50] at hf
        exact hj_134 _ _ _ _ _ _ _ hf
      · rw [if_neg hc50] at hf
        exact hj_138 _ _ _ _ _ _ _ _ hf
  · rw [if_neg hc52] at hf
    cases hf
    exact And.intro (fun _ => Or.inl rfl) (And.intro rfl rfl)
/-- PointedBenchModel.till -/
def f_224 (N : Nat) (h : pb_HP) (v0 : Nat) (v1 : Int32) (v2 : Int32) : Option (Int32 × pb_HP) :=
  if pb_is h v0 11 then ((f_223 N (pb_pI h v0 0 0) v0 v1 v2).bind fun (r2, h3) => (if r2 = 0 then (some (((-1), h3))) else (if pb_is h3 v0 11 then ((f_212 h3 v0).bind fun r5 => ((f_222 N h3 v0 r5).bind fun (r6, h7) => (some ((r6, h7))))) else none))) else none
set_option maxRecDepth 4000 in
theorem l_224 {xs : List Int32} {d : Nat} {N : Nat} {h : pb_HP} {v0 : Nat} {v1 : Int32} {v2 : Int32} {r : Int32} {hE : pb_HP} (hf : f_224 N h v0 v1 v2 = some ((r, hE))) : pb_AR xs (d + 10) 224 h [.ref v0, .int v1, .int v2] (some (.int r)) hE := by
  intro G hG
  have hc_ : pb_CODE 224 = kc_224 := rfl
  rw [hc_] at hG
  unfold f_224 at hf
  refine hG.1 0 0 kb_224_0 _ _ _ rfl ?_
  obtain ⟨hg1, hf⟩ := pb_gd hf
  refine And.intro hg1 (?_)
  obtain ⟨⟨r2, h3⟩, cr2, hf⟩ := Option.bind_eq_some_iff.mp hf
  try dsimp only at hf
  refine And.intro hg1 (And.intro (Nat.le_of_ble_eq_true rfl) (And.intro (Nat.le_of_ble_eq_true rfl) (Exists.intro (some (.int r2)) (Exists.intro _ (And.intro (l_223 cr2) (?_))))))
  refine And.intro (fun (hc8 : r2 = 0) => ?_) (fun (hc8 : ¬ (r2 = 0)) => ?_)
  · rw [if_pos hc8] at hf
    refine hG.1 1 25 kb_224_25 _ _ _ rfl ?_
    refine hG.1 2 26 kb_224_26 _ _ _ rfl ?_
    cases hf
    exact And.intro (fun z_ => absurd z_ (by decide)) (And.intro rfl rfl)
  · rw [if_neg hc8] at hf
    obtain ⟨hg4, hf⟩ := pb_gd hf
    obtain ⟨r5, cr5, hf⟩ := Option.bind_eq_some_iff.mp hf
    refine And.intro hg4 (And.intro (Nat.le_of_ble_eq_true rfl) (And.intro (Nat.le_of_ble_eq_true rfl) (Exists.intro (some (.int r5)) (Exists.intro _ (And.intro (l_212 cr5) (?_))))))
    obtain ⟨⟨r6, h7⟩, cr6, hf⟩ := Option.bind_eq_some_iff.mp hf
    try dsimp only at hf
    refine And.intro hg4 (And.intro (Nat.le_of_ble_eq_true rfl) (And.intro (Nat.le_of_ble_eq_true rfl) (Exists.intro (some (.int r6)) (Exists.intro _ (And.intro (l_222 cr6) (?_))))))
    refine hG.1 2 26 kb_224_26 _ _ _ rfl ?_
    cases hf
    exact And.intro (fun z_ => absurd z_ (by decide)) (And.intro rfl rfl)
/-- PointedBenchModel.state -/
def f_227 (N : Nat) (h : pb_HP) (v0 : Nat) (v1 : Int32) (v2 : Int32) (v3 : Int32) (v4 : Int32) : Option (Int32 × pb_HP) :=
  if pb_is h v0 11 then ((f_223 N (pb_pI h v0 0 0) v0 v1 v2).bind fun (r2, h3) => (if r2 = 0 then (some (((-1), h3))) else (if pb_is h3 v0 11 then ((f_212 h3 v0).bind fun r5 => ((f_168 v3 0 r5).bind fun r6 => (if r6 = 0 then (some (((-1), h3))) else ((f_222 N h3 v0 v3).bind fun (r7, h8) => (if ¬ r7 = v3 then (some (((-1), h8))) else (if pb_is h8 v0 11 then ((f_226 N h8 v0 v4).bind fun (r10, h11) => (some ((r10, h11)))) else none)))))) else none))) else none
set_option maxRecDepth 4000 in
theorem l_227 {xs : List Int32} {d : Nat} {N : Nat} {h : pb_HP} {v0 : Nat} {v1 : Int32} {v2 : Int32} {v3 : Int32} {v4 : Int32} {r : Int32} {hE : pb_HP} (hf : f_227 N h v0 v1 v2 v3 v4 = some ((r, hE))) : pb_AR xs (d + 10) 227 h [.ref v0, .int v1, .int v2, .int v3, .int v4] (some (.int r)) hE := by
  intro G hG
  have hc_ : pb_CODE 227 = kc_227 := rfl
  rw [hc_] at hG
  unfold f_227 at hf
  refine hG.1 0 0 kb_227_0 _ _ _ rfl ?_
  obtain ⟨hg1, hf⟩ := pb_gd hf
  refine And.intro hg1 (?_)
  obtain ⟨⟨r2, h3⟩, cr2, hf⟩ := Option.bind_eq_some_iff.mp hf
  try dsimp only at hf
  refine And.intro hg1 (And.intro (Nat.le_of_ble_eq_true rfl) (And.intro (Nat.le_of_ble_eq_true rfl) (Exists.intro (some (.int r2)) (Exists.intro _ (And.intro (l_223 cr2) (?_))))))
  refine And.intro (fun (hc14 : r2 = 0) => ?_) (fun (hc14 : ¬ (r2 = 0)) => ?_)
  · rw [if_pos hc14] at hf
    refine hG.1 1 44 kb_227_44 _ _ _ rfl ?_
    refine hG.1 2 45 kb_227_45 _ _ _ rfl ?_
    cases hf
    exact And.intro (fun z_ => absurd z_ (by decide)) (And.intro rfl rfl)
  · rw [if_neg hc14] at hf
    obtain ⟨hg4, hf⟩ := pb_gd hf
    obtain ⟨r5, cr5, hf⟩ := Option.bind_eq_some_iff.mp hf
    refine And.intro hg4 (And.intro (Nat.le_of_ble_eq_true rfl) (And.intro (Nat.le_of_ble_eq_true rfl) (Exists.intro (some (.int r5)) (Exists.intro _ (And.intro (l_212 cr5) (?_))))))
    obtain ⟨r6, cr6, hf⟩ := Option.bind_eq_some_iff.mp hf
    refine And.intro (Nat.le_of_ble_eq_true rfl) (And.intro (Nat.le_of_ble_eq_true rfl) (And.intro (Nat.le_of_ble_eq_true rfl) (Exists.intro (some (.int r6)) (Exists.intro _ (And.intro (l_168 cr6) (?_))))))
    refine And.intro (fun (hc13 : r6 = 0) => ?_) (fun (hc13 : ¬ (r6 = 0)) => ?_)
    · rw [if_pos hc13] at hf
      refine hG.1 1 44 kb_227_44 _ _ _ rfl ?_
      refine hG.1 2 45 kb_227_45 _ _ _ rfl ?_
      cases hf
      exact And.intro (fun z_ => absurd z_ (by decide)) (And.intro rfl rfl)
    · rw [if_neg hc13] at hf
      obtain ⟨⟨r7, h8⟩, cr7, hf⟩ := Option.bind_eq_some_iff.mp hf
      try dsimp only at hf
      refine And.intro hg4 (And.intro (Nat.le_of_ble_eq_true rfl) (And.intro (Nat.le_of_ble_eq_true rfl) (Exists.intro (some (.int r7)) (Exists.intro _ (And.intro (l_222 cr7) (?_))))))
      refine And.intro (fun (hc12 : ¬ r7 = v3) => ?_) (fun (hc12 : ¬ (¬ r7 = v3)) => ?_)
      · rw [if_pos hc12] at hf
        refine hG.1 1 44 kb_227_44 _ _ _ rfl ?_
        refine hG.1 2 45 kb_227_45 _ _ _ rfl ?_
        cases hf
        exact And.intro (fun z_ => absurd z_ (by decide)) (And.intro rfl rfl)
      · rw [if_neg hc12] at hf
        obtain ⟨hg9, hf⟩ := pb_gd hf
        obtain ⟨⟨r10, h11⟩, cr10, hf⟩ := Option.bind_eq_some_iff.mp hf
        try dsimp only at hf
        refine And.intro hg9 (And.intro (Nat.le_of_ble_eq_true rfl) (And.intro (Nat.le_of_ble_eq_true rfl) (Exists.intro (some (.int r10)) (Exists.intro _ (And.intro (l_226 cr10) (?_))))))
        refine hG.1 2 45 kb_227_45 _ _ _ rfl ?_
        cases hf
        exact And.intro (fun z_ => absurd z_ (by decide)) (And.intro rfl rfl)
def f_299_49s (N : Nat) (v0 : Nat) (v3 : Int32) (s : Int32 × pb_HP) : Option ((Int32 × pb_HP) ⊕ (pb_HP)) :=
  if 6 ≤ s.1 then (some (.inr s.2)) else (if pb_is s.2 v0 11 then ((pb_R s.2 v0 44).bind fun q7 => (if pb_ar s.2 q7 12 s.1 then ((pb_R s.2 v0 45).bind fun q9 => (if pb_ar s.2 q9 12 s.1 then (some (.inl ((s.1 + 1, pb_pI (pb_pI s.2 q7 s.1.toNatClampNeg 0) q9 s.1.toNatClampNeg 0)))) else none)) else none)) else none)
def f_299_81s (N : Nat) (v0 : Nat) (v3 : Int32) (s : Int32 × pb_HP) : Option ((Int32 × pb_HP) ⊕ (pb_HP)) :=
  if pb_is s.2 v0 11 then ((f_212 s.2 v0).bind fun r14 => (if r14 ≤ s.1 then (some (.inr s.2)) else ((f_297 N s.2 v0 s.1).bind fun (r15, h16) => (if r15 = 0 then (some (.inr h16)) else (some (.inl ((s.1 + 1, h16)))))))) else none
def f_299_105 (N : Nat) (h : pb_HP) (v0 : Nat) (v3 : Int32) : Option (Int32 × pb_HP) :=
  if v3 = 0 then (if pb_is h v0 11 then (some ((pb_I h v0 47, h))) else none) else if v3 = 1 then (if pb_is h v0 11 then (some ((pb_I h v0 48, h))) else none) else if v3 = 2 then (if pb_is h v0 11 then ((pb_R h v0 44).bind fun q26 => ((f_298 N h q26).bind fun r27 => (some ((r27, h))))) else none) else if v3 = 3 then (if pb_is h v0 11 then ((pb_R h v0 45).bind fun q30 => ((f_298 N h q30).bind fun r31 => (some ((r31, h))))) else none) else if v3 = 4 then (if pb_is h v0 11 then (some ((pb_I h v0 49, h))) else none) else (if pb_is h v0 11 then (some ((pb_I h v0 50, h))) else none)
/-- PointedBenchModel.after -/
def f_299 (N : Nat) (h : pb_HP) (v0 : Nat) (v1 : Int32) (v2 : Int32) (v3 : Int32) : Option (Int32 × pb_HP) :=
  if pb_is h v0 11 then ((f_223 N (pb_pI h v0 0 0) v0 v1 v2).bind fun (r2, h3) => (if r2 = 0 then (some (((-2), h3))) else ((f_168 v3 0 5).bind fun r4 => (if ¬ r4 = 0 then (if pb_is h3 v0 11 then ((pb_wl (f_299_49s N v0 v3) N ((0, pb_pI (pb_pI (pb_pI (pb_pI h3 v0 47 ((-1))) v0 48 0) v0 49 0) v0 50 0))).bind fun e12 => ((pb_wl (f_299_81s N v0 v3) N ((0, e12))).bind fun e19 => (f_299_105 N e19 v0 v3))) else none) else (some (((-2), h3))))))) else none
set_option maxRecDepth 4000 in
theorem l_299 {xs : List Int32} {d : Nat} {N : Nat} {h : pb_HP} {v0 : Nat} {v1 : Int32} {v2 : Int32} {v3 : Int32} {r : Int32} {hE : pb_HP} (hf : f_299 N h v0 v1 v2 v3 = some ((r, hE))) : pb_AR xs (d + 10) 299 h [.ref v0, .int v1, .int v2, .int v3] (some (.int r)) hE := by
  intro G hG
  have hc_ : pb_CODE 299 = kc_299 := rfl
  rw [hc_] at hG
  have hl_49 : ∀ (v0 : Nat) (v3 : Int32) (n_ : Nat) (s : Int32 × pb_HP) (e : pb_HP), pb_wl (f_299_49s N v0 v3) n_ s = some e → G 78 [(0, .ref v0), (3, .int v3)] [] e → G 49 [(0, .ref v0), (3, .int v3), (4, .int s.1)] [] s.2 := by
    intro v0 v3
    refine pb_wl_ind (I := fun (s : Int32 × pb_HP) => G 49 [(0, .ref v0), (3, .int v3), (4, .int s.1)] [] s.2) (K := fun (e : pb_HP) => G 78 [(0, .ref v0), (3, .int v3)] [] e) (fun s x hf hk => ?_)
    unfold f_299_49s at hf
    refine hG.1 3 49 kb_299_49 _ _ _ rfl ?_
    refine And.intro (fun (hc11 : 6 ≤ s.1) => ?_) (fun (hc11 : ¬ (6 ≤ s.1)) => ?_)
    · rw [if_pos hc11] at hf
      cases hf
      exact hG.2 78 _ [0, 1] _ _ _ rfl hk
    · rw [if_neg hc11] at hf
      obtain ⟨hg6, hf⟩ := pb_gd hf
      obtain ⟨q7, eq7, hf⟩ := Option.bind_eq_some_iff.mp hf
      obtain ⟨hg8, hf⟩ := pb_gd hf
      obtain ⟨q9, eq9, hf⟩ := Option.bind_eq_some_iff.mp hf
      obtain ⟨hg10, hf⟩ := pb_gd hf
      refine And.intro hg6 (Exists.intro q7 (And.intro eq7 (And.intro hg8 (And.intro hg6 (Exists.intro q9 (And.intro eq9 (And.intro hg10 (?_))))))))
      cases hf
      exact hk
  have hl_81 : ∀ (v0 : Nat) (v3 : Int32) (n_ : Nat) (s : Int32 × pb_HP) (e : pb_HP), pb_wl (f_299_81s N v0 v3) n_ s = some e → G 105 [(0, .ref v0), (3, .int v3)] [] e → G 81 [(0, .ref v0), (3, .int v3), (4, .int s.1)] [] s.2 := by
    intro v0 v3
    refine pb_wl_ind (I := fun (s : Int32 × pb_HP) => G 81 [(0, .ref v0), (3, .int v3), (4, .int s.1)] [] s.2) (K := fun (e : pb_HP) => G 105 [(0, .ref v0), (3, .int v3)] [] e) (fun s x hf hk => ?_)
    unfold f_299_81s at hf
    refine hG.1 5 81 kb_299_81 _ _ _ rfl ?_
    obtain ⟨hg13, hf⟩ := pb_gd hf
    obtain ⟨r14, cr14, hf⟩ := Option.bind_eq_some_iff.mp hf
    refine And.intro hg13 (And.intro (Nat.le_of_ble_eq_true rfl) (And.intro (Nat.le_of_ble_eq_true rfl) (Exists.intro (some (.int r14)) (Exists.intro _ (And.intro (l_212 cr14) (?_))))))
    refine And.intro (fun (hc18 : r14 ≤ s.1) => ?_) (fun (hc18 : ¬ (r14 ≤ s.1)) => ?_)
    · rw [if_pos hc18] at hf
      cases hf
      exact hG.2 105 _ [0, 1] _ _ _ rfl hk
    · rw [if_neg hc18] at hf
      obtain ⟨⟨r15, h16⟩, cr15, hf⟩ := Option.bind_eq_some_iff.mp hf
      try dsimp only at hf
      refine And.intro hg13 (And.intro (Nat.le_of_ble_eq_true rfl) (And.intro (Nat.le_of_ble_eq_true rfl) (Exists.intro (some (.int r15)) (Exists.intro _ (And.intro (l_297 cr15) (?_))))))
      refine And.intro (fun (hc17 : r15 = 0) => ?_) (fun (hc17 : ¬ (r15 = 0)) => ?_)
      · rw [if_pos hc17] at hf
        cases hf
        exact hG.2 105 _ [0, 1] _ _ _ rfl hk
      · rw [if_neg hc17] at hf
        cases hf
        exact hk
  have hj_105 : ∀ (h : pb_HP) (v0 : Nat) (v3 : Int32), f_299_105 N h v0 v3 = some ((r, hE)) → G 105 [(0, .ref v0), (3, .int v3)] [] h := by
    intro h v0 v3 hf
    unfold f_299_105 at hf
    refine hG.1 6 105 kb_299_105 _ _ _ rfl ?_
    by_cases hc20 : v3 = 0
    · rw [if_pos hc20] at hf
      refine pb_gs (G := G) (tgt := 140) (show pb_swt 106 65 0 4 #[34, 39, 44, 52, 60] v3 = 140 by rw [hc20]; decide) ?_
      refine hG.1 7 140 kb_299_140 _ _ _ rfl ?_
      obtain ⟨hg21, hf⟩ := pb_gd hf
      refine And.intro hg21 (?_)
      cases hf
      exact And.intro (fun z_ => absurd z_ (by decide)) (And.intro rfl rfl)
    rw [if_neg hc20] at hf
    by_cases hc22 : v3 = 1
    · rw [if_pos hc22] at hf
      refine pb_gs (G := G) (tgt := 145) (show pb_swt 106 65 0 4 #[34, 39, 44, 52, 60] v3 = 145 by rw [hc22]; decide) ?_
      refine hG.1 8 145 kb_299_145 _ _ _ rfl ?_
      obtain ⟨hg23, hf⟩ := pb_gd hf
      refine And.intro hg23 (?_)
      cases hf
      exact And.intro (fun z_ => absurd z_ (by decide)) (And.intro rfl rfl)
    rw [if_neg hc22] at hf
    by_cases hc24 : v3 = 2
    · rw [if_pos hc24] at hf
      refine pb_gs (G := G) (tgt := 150) (show pb_swt 106 65 0 4 #[34, 39, 44, 52, 60] v3 = 150 by rw [hc24]; decide) ?_
      refine hG.1 9 150 kb_299_150 _ _ _ rfl ?_
      obtain ⟨hg25, hf⟩ := pb_gd hf
      obtain ⟨q26, eq26, hf⟩ := Option.bind_eq_some_iff.mp hf
      refine And.intro hg25 (Exists.intro q26 (And.intro eq26 (?_)))
      obtain ⟨r27, cr27, hf⟩ := Option.bind_eq_some_iff.mp hf
      refine And.intro (Nat.le_of_ble_eq_true rfl) (And.intro (Nat.le_of_ble_eq_true rfl) (And.intro (Nat.le_of_ble_eq_true rfl) (Exists.intro (some (.int r27)) (Exists.intro _ (And.intro (l_298 cr27) (?_))))))
      cases hf
      exact And.intro (fun z_ => absurd z_ (by decide)) (And.intro rfl rfl)
    rw [if_neg hc24] at hf
    by_cases hc28 : v3 = 3
    · rw [if_pos hc28] at hf
      refine pb_gs (G := G) (tgt := 158) (show pb_swt 106 65 0 4 #[34, 39, 44, 52, 60] v3 = 158 by rw [hc28]; decide) ?_
      refine hG.1 10 158 kb_299_158 _ _ _ rfl ?_
      obtain ⟨hg29, hf⟩ := pb_gd hf
      obtain ⟨q30, eq30, hf⟩ := Option.bind_eq_some_iff.mp hf
      refine And.intro hg29 (Exists.intro q30 (And.intro eq30 (?_)))
      obtain ⟨r31, cr31, hf⟩ := Option.bind_eq_some_iff.mp hf
      refine And.intro (Nat.le_of_ble_eq_true rfl) (And.intro (Nat.le_of_ble_eq_true rfl) (And.intro (Nat.le_of_ble_eq_true rfl) (Exists.intro (some (.int r31)) (Exists.intro _ (And.intro (l_298 cr31) (?_))))))
      cases hf
      exact And.intro (fun z_ => absurd z_ (by decide)) (And.intro rfl rfl)
    rw [if_neg hc28] at hf
    by_cases hc32 : v3 = 4
    · rw [if_pos hc32] at hf
      refine pb_gs (G := G) (tgt := 166) (show pb_swt 106 65 0 4 #[34, 39, 44, 52, 60] v3 = 166 by rw [hc32]; decide) ?_
      refine hG.1 11 166 kb_299_166 _ _ _ rfl ?_
      obtain ⟨hg33, hf⟩ := pb_gd hf
      refine And.intro hg33 (?_)
      cases hf
      exact And.intro (fun z_ => absurd z_ (by decide)) (And.intro rfl rfl)
    rw [if_neg hc32] at hf
    refine pb_gs (G := G) (tgt := 171) (show pb_swt 106 65 0 4 #[34, 39, 44, 52, 60] v3 = 171 from pb_swd (by decide) (by decide) (fun k_ hk_ => by
      have hk_ : k_ < 5 := hk_
      match k_, hk_ with
      | 0, _ => exact hc20
      | 1, _ => exact hc22
      | 2, _ => exact hc24
      | 3, _ => exact hc28
      | 4, _ => exact hc32
      | k_ + 5, hk_ => omega)) ?_
    refine hG.1 12 171 kb_299_171 _ _ _ rfl ?_
    obtain ⟨hg34, hf⟩ := pb_gd hf
    refine And.intro hg34 (?_)
    cases hf
    exact And.intro (fun z_ => absurd z_ (by decide)) (And.intro rfl rfl)
  unfold f_299 at hf
  refine hG.1 0 0 kb_299_0 _ _ _ rfl ?_
  obtain ⟨hg1, hf⟩ := pb_gd hf
  refine And.intro hg1 (?_)
  obtain ⟨⟨r2, h3⟩, cr2, hf⟩ := Option.bind_eq_some_iff.mp hf
  try dsimp only at hf
  refine And.intro hg1 (And.intro (Nat.le_of_ble_eq_true rfl) (And.intro (Nat.le_of_ble_eq_true rfl) (Exists.intro (some (.int r2)) (Exists.intro _ (And.intro (l_223 cr2) (?_))))))
  refine And.intro (fun (hc36 : r2 = 0) => ?_) (fun (hc36 : ¬ (r2 = 0)) => ?_)
  · rw [if_pos hc36] at hf
    refine hG.1 1 23 kb_299_23 _ _ _ rfl ?_
    cases hf
    exact And.intro (fun z_ => absurd z_ (by decide)) (And.intro rfl rfl)
  · rw [if_neg hc36] at hf
    obtain ⟨r4, cr4, hf⟩ := Option.bind_eq_some_iff.mp hf
    refine And.intro (Nat.le_of_ble_eq_true rfl) (And.intro (Nat.le_of_ble_eq_true rfl) (And.intro (Nat.le_of_ble_eq_true rfl) (Exists.intro (some (.int r4)) (Exists.intro _ (And.intro (l_168 cr4) (?_))))))
    refine And.intro (fun (hc35 : ¬ r4 = 0) => ?_) (fun (hc35 : ¬ (¬ r4 = 0)) => ?_)
    · rw [if_pos hc35] at hf
      refine hG.1 2 26 kb_299_26 _ _ _ rfl ?_
      obtain ⟨hg5, hf⟩ := pb_gd hf
      refine And.intro hg5 (And.intro hg5 (And.intro hg5 (And.intro hg5 (?_))))
      obtain ⟨e12, he_e12, hf⟩ := Option.bind_eq_some_iff.mp hf
      refine hG.2 49 _ [0, 3, 4] _ _ _ rfl ?_
      refine hl_49 _ _ _ _ _ he_e12 ?_
      refine hG.1 4 78 kb_299_78 _ _ _ rfl ?_
      obtain ⟨e19, he_e19, hf⟩ := Option.bind_eq_some_iff.mp hf
      refine hl_81 _ _ _ _ _ he_e19 ?_
      exact hj_105 _ _ _ hf
    · rw [if_neg hc35] at hf
      refine hG.1 1 23 kb_299_23 _ _ _ rfl ?_
      cases hf
      exact And.intro (fun z_ => absurd z_ (by decide)) (And.intro rfl rfl)
