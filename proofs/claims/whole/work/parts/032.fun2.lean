/-- County.clear -/
def f_1 (N : Nat) (h : pb_HP) (v0 : Nat) : Option (pb_HP) :=
  if pb_is h v0 0 then ((pb_R h v0 3).bind fun q2 => ((f_306 N (pb_pI (pb_pI h v0 0 0) v0 1 0) q2 0).bind fun h4 => (if pb_is h4 v0 0 then ((pb_R h4 v0 6).bind fun q6 => ((f_306 N h4 q6 0).bind fun h8 => (if pb_is h8 v0 0 then ((pb_R h8 v0 7).bind fun q10 => ((f_306 N h8 q10 0).bind fun h12 => (some h12))) else none))) else none))) else none
set_option maxRecDepth 4000 in
theorem l_1 {xs : List Int32} {d : Nat} {N : Nat} {h : pb_HP} {v0 : Nat} {hE : pb_HP} (hf : f_1 N h v0 = some hE) : pb_AR xs (d + 2) 1 h [.ref v0] none hE := by
  intro G hG
  have hc_ : pb_CODE 1 = kc_1 := rfl
  rw [hc_] at hG
  unfold f_1 at hf
  refine hG.1 0 0 kb_1_0 _ _ _ rfl ?_
  obtain ⟨hg1, hf⟩ := pb_gd hf
  obtain ⟨q2, eq2, hf⟩ := Option.bind_eq_some_iff.mp hf
  refine And.intro hg1 (And.intro hg1 (And.intro hg1 (Exists.intro q2 (And.intro eq2 (?_)))))
  obtain ⟨h4, cr3, hf⟩ := Option.bind_eq_some_iff.mp hf
  refine And.intro (Nat.le_of_ble_eq_true rfl) (And.intro (Nat.le_of_ble_eq_true rfl) (And.intro (Nat.le_of_ble_eq_true rfl) (Exists.intro none (Exists.intro _ (And.intro (l_306 cr3) (?_))))))
  obtain ⟨hg5, hf⟩ := pb_gd hf
  obtain ⟨q6, eq6, hf⟩ := Option.bind_eq_some_iff.mp hf
  refine And.intro hg5 (Exists.intro q6 (And.intro eq6 (?_)))
  obtain ⟨h8, cr7, hf⟩ := Option.bind_eq_some_iff.mp hf
  refine And.intro (Nat.le_of_ble_eq_true rfl) (And.intro (Nat.le_of_ble_eq_true rfl) (And.intro (Nat.le_of_ble_eq_true rfl) (Exists.intro none (Exists.intro _ (And.intro (l_306 cr7) (?_))))))
  obtain ⟨hg9, hf⟩ := pb_gd hf
  obtain ⟨q10, eq10, hf⟩ := Option.bind_eq_some_iff.mp hf
  refine And.intro hg9 (Exists.intro q10 (And.intro eq10 (?_)))
  obtain ⟨h12, cr11, hf⟩ := Option.bind_eq_some_iff.mp hf
  refine And.intro (Nat.le_of_ble_eq_true rfl) (And.intro (Nat.le_of_ble_eq_true rfl) (And.intro (Nat.le_of_ble_eq_true rfl) (Exists.intro none (Exists.intro _ (And.intro (l_306 cr11) (?_))))))
  cases hf
  exact And.intro rfl rfl
/-- County.likesTold -/
def f_6 (h : pb_HP) (v0 : Nat) (v1 : Int32) : Option (Int32) :=
  if pb_is h v0 0 then ((f_4 h v0 (v1 / 10)).bind fun r2 => (if r2 = 0 then (some ((-1))) else (if (v1 - v1 / 10 * 10) < 0 then (some ((-1))) else (if 6 ≤ (v1 - v1 / 10 * 10) then (some ((-1))) else ((pb_R h v0 7).bind fun q3 => (if pb_ar h q3 12 (((v1 / 10) * 6) + (v1 - v1 / 10 * 10)) then (some (pb_I h q3 (((v1 / 10) * 6) + (v1 - v1 / 10 * 10)).toNatClampNeg)) else none)))))) else none
set_option maxRecDepth 4000 in
theorem l_6 {xs : List Int32} {d : Nat} {h : pb_HP} {v0 : Nat} {v1 : Int32} {r : Int32} (hf : f_6 h v0 v1 = some r) : pb_AR xs (d + 2) 6 h [.ref v0, .int v1] (some (.int r)) h := by
  intro G hG
  have hc_ : pb_CODE 6 = kc_6 := rfl
  rw [hc_] at hG
  unfold f_6 at hf
  refine hG.1 0 0 kb_6_0 _ _ _ rfl ?_
  obtain ⟨hg1, hf⟩ := pb_gd hf
  refine And.intro (by decide) (And.intro (by decide) (?_))
  obtain ⟨r2, cr2, hf⟩ := Option.bind_eq_some_iff.mp hf
  refine And.intro hg1 (And.intro (Nat.le_of_ble_eq_true rfl) (And.intro (Nat.le_of_ble_eq_true rfl) (Exists.intro (some (.int r2)) (Exists.intro _ (And.intro (l_4 cr2) (?_))))))
  refine And.intro (fun (hc7 : r2 = 0) => ?_) (fun (hc7 : ¬ (r2 = 0)) => ?_)
  · rw [if_pos hc7] at hf
    refine hG.1 1 42 kb_6_42 _ _ _ rfl ?_
    refine hG.1 2 43 kb_6_43 _ _ _ rfl ?_
    cases hf
    exact And.intro (fun z_ => absurd z_ (by decide)) (And.intro rfl rfl)
  · rw [if_neg hc7] at hf
    refine And.intro (fun (hc6 : (v1 - v1 / 10 * 10) < 0) => ?_) (fun (hc6 : ¬ ((v1 - v1 / 10 * 10) < 0)) => ?_)
    · rw [if_pos hc6] at hf
      refine hG.1 1 42 kb_6_42 _ _ _ rfl ?_
      refine hG.1 2 43 kb_6_43 _ _ _ rfl ?_
      cases hf
      exact And.intro (fun z_ => absurd z_ (by decide)) (And.intro rfl rfl)
    · rw [if_neg hc6] at hf
      refine And.intro (fun (hc5 : 6 ≤ (v1 - v1 / 10 * 10)) => ?_) (fun (hc5 : ¬ (6 ≤ (v1 - v1 / 10 * 10))) => ?_)
      · rw [if_pos hc5] at hf
        refine hG.1 1 42 kb_6_42 _ _ _ rfl ?_
        refine hG.1 2 43 kb_6_43 _ _ _ rfl ?_
        cases hf
        exact And.intro (fun z_ => absurd z_ (by decide)) (And.intro rfl rfl)
      · rw [if_neg hc5] at hf
        obtain ⟨q3, eq3, hf⟩ := Option.bind_eq_some_iff.mp hf
        obtain ⟨hg4, hf⟩ := pb_gd hf
        refine And.intro hg1 (Exists.intro q3 (And.intro eq3 (And.intro hg4 (?_))))
        refine hG.1 2 43 kb_6_43 _ _ _ rfl ?_
        cases hf
        exact And.intro (fun z_ => absurd z_ (by decide)) (And.intro rfl rfl)
/-- County.votes -/
def f_7 (h : pb_HP) (v0 : Nat) (v1 : Int32) : Option (Int32) :=
  if pb_is h v0 0 then ((f_4 h v0 v1).bind fun r2 => (if r2 = 0 then (some 0) else ((pb_R h v0 4).bind fun q3 => (if pb_ar h q3 12 v1 then (if 12 < (pb_I h q3 v1.toNatClampNeg) then (some 0) else ((pb_R h v0 5).bind fun q5 => (if pb_ar h q5 12 v1 then (if (pb_I h q5 v1.toNatClampNeg) ≤ 0 then (some 0) else (some 1)) else none))) else none)))) else none
set_option maxRecDepth 4000 in
theorem l_7 {xs : List Int32} {d : Nat} {h : pb_HP} {v0 : Nat} {v1 : Int32} {r : Int32} (hf : f_7 h v0 v1 = some r) : pb_AR xs (d + 2) 7 h [.ref v0, .int v1] (some (.int r)) h := by
  intro G hG
  have hc_ : pb_CODE 7 = kc_7 := rfl
  rw [hc_] at hG
  unfold f_7 at hf
  refine hG.1 0 0 kb_7_0 _ _ _ rfl ?_
  obtain ⟨hg1, hf⟩ := pb_gd hf
  obtain ⟨r2, cr2, hf⟩ := Option.bind_eq_some_iff.mp hf
  refine And.intro hg1 (And.intro (Nat.le_of_ble_eq_true rfl) (And.intro (Nat.le_of_ble_eq_true rfl) (Exists.intro (some (.int r2)) (Exists.intro _ (And.intro (l_4 cr2) (?_))))))
  refine And.intro (fun (hc9 : r2 = 0) => ?_) (fun (hc9 : ¬ (r2 = 0)) => ?_)
  · rw [if_pos hc9] at hf
    refine hG.1 1 32 kb_7_32 _ _ _ rfl ?_
    refine hG.1 2 33 kb_7_33 _ _ _ rfl ?_
    cases hf
    exact And.intro (fun _ => Or.inl rfl) (And.intro rfl rfl)
  · rw [if_neg hc9] at hf
    obtain ⟨q3, eq3, hf⟩ := Option.bind_eq_some_iff.mp hf
    obtain ⟨hg4, hf⟩ := pb_gd hf
    refine And.intro hg1 (Exists.intro q3 (And.intro eq3 (And.intro hg4 (?_))))
    refine And.intro (fun (hc8 : 12 < (pb_I h q3 v1.toNatClampNeg)) => ?_) (fun (hc8 : ¬ (12 < (pb_I h q3 v1.toNatClampNeg))) => ?_)
    · rw [if_pos hc8] at hf
      refine hG.1 1 32 kb_7_32 _ _ _ rfl ?_
      refine hG.1 2 33 kb_7_33 _ _ _ rfl ?_
      cases hf
      exact And.intro (fun _ => Or.inl rfl) (And.intro rfl rfl)
    · rw [if_neg hc8] at hf
      obtain ⟨q5, eq5, hf⟩ := Option.bind_eq_some_iff.mp hf
      obtain ⟨hg6, hf⟩ := pb_gd hf
      refine And.intro hg1 (Exists.intro q5 (And.intro eq5 (And.intro hg6 (?_))))
      refine And.intro (fun (hc7 : (pb_I h q5 v1.toNatClampNeg) ≤ 0) => ?_) (fun (hc7 : ¬ ((pb_I h q5 v1.toNatClampNeg) ≤ 0)) => ?_)
      · rw [if_pos hc7] at hf
        refine hG.1 1 32 kb_7_32 _ _ _ rfl ?_
        refine hG.1 2 33 kb_7_33 _ _ _ rfl ?_
        cases hf
        exact And.intro (fun _ => Or.inl rfl) (And.intro rfl rfl)
      · rw [if_neg hc7] at hf
        refine hG.1 2 33 kb_7_33 _ _ _ rfl ?_
        cases hf
        exact And.intro (fun _ => Or.inr rfl) (And.intro rfl rfl)
def f_11_9s (N : Nat) (h : pb_HP) (v0 : Nat) (v1 : Int32) (v2 : Int32) (s : Int32 × Int32 × Int32) : Option ((Int32 × Int32 × Int32) ⊕ (Int32)) :=
  if pb_is h v0 0 then (if (pb_I h v0 0) ≤ s.2.2 then (some (.inr s.2.1)) else (if ((v2 >>> (s.2.2 &&& 31)) &&& 1) = 0 then (some (.inl ((s.1, s.2.1, s.2.2 + 1)))) else ((f_9 N h v0 v1 s.2.2).bind fun r2 => (if r2 ≤ s.1 then (some (.inl ((s.1, s.2.1, s.2.2 + 1)))) else (some (.inl ((r2, s.2.2, s.2.2 + 1)))))))) else none
/-- County.pointOf -/
def f_11 (N : Nat) (h : pb_HP) (v0 : Nat) (v1 : Int32) (v2 : Int32) : Option (Int32) :=
  (pb_wl (f_11_9s N h v0 v1 v2) N (((-1), 6, 0))).bind fun e6 => (some e6)
set_option maxRecDepth 4000 in
theorem l_11 {xs : List Int32} {d : Nat} {N : Nat} {h : pb_HP} {v0 : Nat} {v1 : Int32} {v2 : Int32} {r : Int32} (hf : f_11 N h v0 v1 v2 = some r) : pb_AR xs (d + 2) 11 h [.ref v0, .int v1, .int v2] (some (.int r)) h := by
  intro G hG
  have hc_ : pb_CODE 11 = kc_11 := rfl
  rw [hc_] at hG
  have hl_9 : ∀ (v0 : Nat) (v1 : Int32) (v2 : Int32) (n_ : Nat) (s : Int32 × Int32 × Int32) (e : Int32), pb_wl (f_11_9s N h v0 v1 v2) n_ s = some e → G 55 [(4, .int e)] [] h → G 9 [(0, .ref v0), (1, .int v1), (2, .int v2), (3, .int s.1), (4, .int s.2.1), (5, .int s.2.2)] [] h := by
    intro v0 v1 v2
    refine pb_wl_ind (I := fun (s : Int32 × Int32 × Int32) => G 9 [(0, .ref v0), (1, .int v1), (2, .int v2), (3, .int s.1), (4, .int s.2.1), (5, .int s.2.2)] [] h) (K := fun (e : Int32) => G 55 [(4, .int e)] [] h) (fun s x hf hk => ?_)
    unfold f_11_9s at hf
    refine hG.1 1 9 kb_11_9 _ _ _ rfl ?_
    obtain ⟨hg1, hf⟩ := pb_gd hf
    refine And.intro hg1 (?_)
    refine And.intro (fun (hc5 : (pb_I h v0 0) ≤ s.2.2) => ?_) (fun (hc5 : ¬ ((pb_I h v0 0) ≤ s.2.2)) => ?_)
    · rw [if_pos hc5] at hf
      cases hf
      exact hG.2 55 _ [4] _ _ _ rfl hk
    · rw [if_neg hc5] at hf
      refine And.intro (fun (hc4 : ((v2 >>> (s.2.2 &&& 31)) &&& 1) = 0) => ?_) (fun (hc4 : ¬ (((v2 >>> (s.2.2 &&& 31)) &&& 1) = 0)) => ?_)
      · rw [if_pos hc4] at hf
        refine hG.1 2 49 kb_11_49 _ _ _ rfl ?_
        cases hf
        exact hk
      · rw [if_neg hc4] at hf
        obtain ⟨r2, cr2, hf⟩ := Option.bind_eq_some_iff.mp hf
        refine And.intro hg1 (And.intro (Nat.le_of_ble_eq_true rfl) (And.intro (Nat.le_of_ble_eq_true rfl) (Exists.intro (some (.int r2)) (Exists.intro _ (And.intro (l_9 cr2) (?_))))))
        refine And.intro (fun (hc3 : r2 ≤ s.1) => ?_) (fun (hc3 : ¬ (r2 ≤ s.1)) => ?_)
        · rw [if_pos hc3] at hf
          refine hG.1 2 49 kb_11_49 _ _ _ rfl ?_
          cases hf
          exact hG.2 9 _ [0, 1, 2, 3, 4, 5] _ _ _ rfl hk
        · rw [if_neg hc3] at hf
          refine hG.1 2 49 kb_11_49 _ _ _ rfl ?_
          cases hf
          exact hG.2 9 _ [0, 1, 2, 3, 4, 5] _ _ _ rfl hk
  unfold f_11 at hf
  refine hG.1 0 0 kb_11_0 _ _ _ rfl ?_
  obtain ⟨e6, he_e6, hf⟩ := Option.bind_eq_some_iff.mp hf
  refine hl_9 _ _ _ _ _ _ he_e6 ?_
  refine hG.1 3 55 kb_11_55 _ _ _ rfl ?_
  cases hf
  exact And.intro (fun z_ => absurd z_ (by decide)) (And.intro rfl rfl)
def f_14_6s (N : Nat) (h : pb_HP) (v0 : Nat) (s : Int32 × Int32 × Int32) : Option ((Int32 × Int32 × Int32) ⊕ (Int32)) :=
  if 6 ≤ s.2.2 then (some (.inr s.2.1)) else (if pb_is h v0 0 then ((f_10 N h v0 s.2.2).bind fun r2 => (if r2 ≤ s.1 then (some (.inl ((s.1, s.2.1, s.2.2 + 1)))) else ((f_10 N h v0 s.2.2).bind fun r3 => (some (.inl ((r3, s.2.2, s.2.2 + 1))))))) else none)
/-- County.sweetest -/
def f_14 (N : Nat) (h : pb_HP) (v0 : Nat) : Option (Int32) :=
  (pb_wl (f_14_6s N h v0) N (((-1), 0, 0))).bind fun e6 => (some e6)
set_option maxRecDepth 4000 in
theorem l_14 {xs : List Int32} {d : Nat} {N : Nat} {h : pb_HP} {v0 : Nat} {r : Int32} (hf : f_14 N h v0 = some r) : pb_AR xs (d + 2) 14 h [.ref v0] (some (.int r)) h := by
  intro G hG
  have hc_ : pb_CODE 14 = kc_14 := rfl
  rw [hc_] at hG
  have hl_6 : ∀ (v0 : Nat) (n_ : Nat) (s : Int32 × Int32 × Int32) (e : Int32), pb_wl (f_14_6s N h v0) n_ s = some e → G 35 [(2, .int e)] [] h → G 6 [(0, .ref v0), (1, .int s.1), (2, .int s.2.1), (3, .int s.2.2)] [] h := by
    intro v0
    refine pb_wl_ind (I := fun (s : Int32 × Int32 × Int32) => G 6 [(0, .ref v0), (1, .int s.1), (2, .int s.2.1), (3, .int s.2.2)] [] h) (K := fun (e : Int32) => G 35 [(2, .int e)] [] h) (fun s x hf hk => ?_)
    unfold f_14_6s at hf
    refine hG.1 1 6 kb_14_6 _ _ _ rfl ?_
    refine And.intro (fun (hc5 : 6 ≤ s.2.2) => ?_) (fun (hc5 : ¬ (6 ≤ s.2.2)) => ?_)
    · rw [if_pos hc5] at hf
      cases hf
      exact hG.2 35 _ [2] _ _ _ rfl hk
    · rw [if_neg hc5] at hf
      obtain ⟨hg1, hf⟩ := pb_gd hf
      obtain ⟨r2, cr2, hf⟩ := Option.bind_eq_some_iff.mp hf
      refine And.intro hg1 (And.intro (Nat.le_of_ble_eq_true rfl) (And.intro (Nat.le_of_ble_eq_true rfl) (Exists.intro (some (.int r2)) (Exists.intro _ (And.intro (l_10 cr2) (?_))))))
      refine And.intro (fun (hc4 : r2 ≤ s.1) => ?_) (fun (hc4 : ¬ (r2 ≤ s.1)) => ?_)
      · rw [if_pos hc4] at hf
        refine hG.1 2 29 kb_14_29 _ _ _ rfl ?_
        cases hf
        exact hk
      · rw [if_neg hc4] at hf
        obtain ⟨r3, cr3, hf⟩ := Option.bind_eq_some_iff.mp hf
        refine And.intro hg1 (And.intro (Nat.le_of_ble_eq_true rfl) (And.intro (Nat.le_of_ble_eq_true rfl) (Exists.intro (some (.int r3)) (Exists.intro _ (And.intro (l_10 cr3) (?_))))))
        refine hG.1 2 29 kb_14_29 _ _ _ rfl ?_
        cases hf
        exact hk
  unfold f_14 at hf
  refine hG.1 0 0 kb_14_0 _ _ _ rfl ?_
  obtain ⟨e6, he_e6, hf⟩ := Option.bind_eq_some_iff.mp hf
  refine hl_6 _ _ _ _ he_e6 ?_
  refine hG.1 3 35 kb_14_35 _ _ _ rfl ?_
  cases hf
  exact And.intro (fun z_ => absurd z_ (by decide)) (And.intro rfl rfl)
def f_17_15s (N : Nat) (h : pb_HP) (v0 : Nat) (v1 : Int32) (s : Int32 × Int32 × Int32) : Option ((Int32 × Int32 × Int32) ⊕ (Int32)) :=
  if pb_is h v0 0 then (if ((1 : Int32) <<< ((pb_I h v0 0) &&& 31)) ≤ s.2.2 then (some (.inr s.2.1)) else ((f_305 s.2.2).bind fun r4 => (if s.1 ≤ r4 then (some (.inl ((s.1, s.2.1, s.2.2 + 1)))) else ((f_18 N h v0 s.2.2).bind fun r5 => (if ¬ r5 = v1 then (some (.inl ((s.1, s.2.1, s.2.2 + 1)))) else ((f_305 s.2.2).bind fun r6 => (some (.inl ((r6, s.2.2, s.2.2 + 1)))))))))) else none
/-- County.guards -/
def f_17 (N : Nat) (h : pb_HP) (v0 : Nat) : Option (Int32) :=
  if pb_is h v0 0 then ((f_18 N h v0 63).bind fun r2 => ((pb_wl (f_17_15s N h v0 r2) N ((7, 0, 0))).bind fun e10 => (some e10))) else none
set_option maxRecDepth 4000 in
theorem l_17 {xs : List Int32} {d : Nat} {N : Nat} {h : pb_HP} {v0 : Nat} {r : Int32} (hf : f_17 N h v0 = some r) : pb_AR xs (d + 2) 17 h [.ref v0] (some (.int r)) h := by
  intro G hG
  have hc_ : pb_CODE 17 = kc_17 := rfl
  rw [hc_] at hG
  have hl_15 : ∀ (v0 : Nat) (v1 : Int32) (n_ : Nat) (s : Int32 × Int32 × Int32) (e : Int32), pb_wl (f_17_15s N h v0 v1) n_ s = some e → G 60 [(3, .int e)] [] h → G 15 [(0, .ref v0), (1, .int v1), (2, .int s.1), (3, .int s.2.1), (4, .int s.2.2)] [] h := by
    intro v0 v1
    refine pb_wl_ind (I := fun (s : Int32 × Int32 × Int32) => G 15 [(0, .ref v0), (1, .int v1), (2, .int s.1), (3, .int s.2.1), (4, .int s.2.2)] [] h) (K := fun (e : Int32) => G 60 [(3, .int e)] [] h) (fun s x hf hk => ?_)
    unfold f_17_15s at hf
    refine hG.1 1 15 kb_17_15 _ _ _ rfl ?_
    obtain ⟨hg3, hf⟩ := pb_gd hf
    refine And.intro hg3 (?_)
    refine And.intro (fun (hc9 : ((1 : Int32) <<< ((pb_I h v0 0) &&& 31)) ≤ s.2.2) => ?_) (fun (hc9 : ¬ (((1 : Int32) <<< ((pb_I h v0 0) &&& 31)) ≤ s.2.2)) => ?_)
    · rw [if_pos hc9] at hf
      cases hf
      exact hG.2 60 _ [3] _ _ _ rfl hk
    · rw [if_neg hc9] at hf
      obtain ⟨r4, cr4, hf⟩ := Option.bind_eq_some_iff.mp hf
      refine And.intro (Nat.le_of_ble_eq_true rfl) (And.intro (Nat.le_of_ble_eq_true rfl) (And.intro (Nat.le_of_ble_eq_true rfl) (Exists.intro (some (.int r4)) (Exists.intro _ (And.intro (l_305 cr4) (?_))))))
      refine And.intro (fun (hc8 : s.1 ≤ r4) => ?_) (fun (hc8 : ¬ (s.1 ≤ r4)) => ?_)
      · rw [if_pos hc8] at hf
        refine hG.1 2 54 kb_17_54 _ _ _ rfl ?_
        cases hf
        exact hk
      · rw [if_neg hc8] at hf
        obtain ⟨r5, cr5, hf⟩ := Option.bind_eq_some_iff.mp hf
        refine And.intro hg3 (And.intro (Nat.le_of_ble_eq_true rfl) (And.intro (Nat.le_of_ble_eq_true rfl) (Exists.intro (some (.int r5)) (Exists.intro _ (And.intro (l_18 cr5) (?_))))))
        refine And.intro (fun (hc7 : ¬ r5 = v1) => ?_) (fun (hc7 : ¬ (¬ r5 = v1)) => ?_)
        · rw [if_pos hc7] at hf
          refine hG.1 2 54 kb_17_54 _ _ _ rfl ?_
          cases hf
          exact hk
        · rw [if_neg hc7] at hf
          obtain ⟨r6, cr6, hf⟩ := Option.bind_eq_some_iff.mp hf
          refine And.intro (Nat.le_of_ble_eq_true rfl) (And.intro (Nat.le_of_ble_eq_true rfl) (And.intro (Nat.le_of_ble_eq_true rfl) (Exists.intro (some (.int r6)) (Exists.intro _ (And.intro (l_305 cr6) (?_))))))
          refine hG.1 2 54 kb_17_54 _ _ _ rfl ?_
          cases hf
          exact hk
  unfold f_17 at hf
  refine hG.1 0 0 kb_17_0 _ _ _ rfl ?_
  obtain ⟨hg1, hf⟩ := pb_gd hf
  obtain ⟨r2, cr2, hf⟩ := Option.bind_eq_some_iff.mp hf
  refine And.intro hg1 (And.intro (Nat.le_of_ble_eq_true rfl) (And.intro (Nat.le_of_ble_eq_true rfl) (Exists.intro (some (.int r2)) (Exists.intro _ (And.intro (l_18 cr2) (?_))))))
  obtain ⟨e10, he_e10, hf⟩ := Option.bind_eq_some_iff.mp hf
  refine hl_15 _ _ _ _ _ he_e10 ?_
  refine hG.1 3 60 kb_17_60 _ _ _ rfl ?_
  cases hf
  exact And.intro (fun z_ => absurd z_ (by decide)) (And.intro rfl rfl)
def f_26_65 (N : Nat) (h : pb_HP) (v0 : Nat) (v1 : Int32) (v2 : Int32) (v3 : Int32) (v4 : Int32) (v5 : Int32) (v6 : Int32) (s0 : Int32) (s1 : Int32) : Option ((Int32 × Int32) ⊕ ((Int32) ⊕ (Int32))) :=
  if v6 = v2 then (some (.inl ((v5, v6 + 1)))) else (if pb_is h v0 0 then ((f_9 N h v0 v1 v6).bind fun r8 => (if r8 = ((-1)) then (some (.inl ((v5, v6 + 1)))) else (if (s1 + s0) ≤ 0 then (some (.inl ((v5, v6 + 1)))) else ((pb_R h v0 3).bind fun q9 => (if pb_ar h q9 12 v6 then (if (((pb_I h q9 v6.toNatClampNeg) >>> (v3 &&& 31)) &&& 1) = 0 then (some (.inl ((if v5 < s1 + s0 then s1 + s0 else v5, v6 + 1)))) else (some (.inr (.inl ((-1)))))) else none))))) else none)
def f_26_35s (N : Nat) (h : pb_HP) (v0 : Nat) (v1 : Int32) (v2 : Int32) (v3 : Int32) (v4 : Int32) (s : Int32 × Int32) : Option ((Int32 × Int32) ⊕ ((Int32) ⊕ (Int32))) :=
  if pb_is h v0 0 then (if (pb_I h v0 0) ≤ s.2 then (some (.inr (.inr s.1))) else ((f_9 N h v0 v1 s.2).bind fun r6 => (if v2 ≤ s.2 then (f_26_65 N h v0 v1 v2 v3 v4 s.1 s.2 0 (r6 - v4)) else (f_26_65 N h v0 v1 v2 v3 v4 s.1 s.2 1 (r6 - v4))))) else none
/-- County.bunsOf -/
def f_26 (N : Nat) (h : pb_HP) (v0 : Nat) (v1 : Int32) (v2 : Int32) (v3 : Int32) : Option (Int32) :=
  if pb_is h v0 0 then ((f_9 N h v0 v1 v2).bind fun r2 => (if r2 = ((-1)) then (some ((-1))) else ((pb_R h v0 3).bind fun q3 => (if pb_ar h q3 12 v2 then (if ¬ (((pb_I h q3 v2.toNatClampNeg) >>> (v3 &&& 31)) &&& 1) = 0 then ((pb_wl (f_26_35s N h v0 v1 v2 v3 r2) N ((0, 0))).bind fun e17 => (match e17 with | .inl q19 => some q19 | .inr x18 => some x18)) else (some ((-1)))) else none)))) else none
set_option maxRecDepth 4000 in
theorem l_26 {xs : List Int32} {d : Nat} {N : Nat} {h : pb_HP} {v0 : Nat} {v1 : Int32} {v2 : Int32} {v3 : Int32} {r : Int32} (hf : f_26 N h v0 v1 v2 v3 = some r) : pb_AR xs (d + 2) 26 h [.ref v0, .int v1, .int v2, .int v3] (some (.int r)) h := by
  intro G hG
  have hc_ : pb_CODE 26 = kc_26 := rfl
  rw [hc_] at hG
  have hj_65 : ∀ (v0 : Nat) (v1 : Int32) (v2 : Int32) (v3 : Int32) (v4 : Int32) (v5 : Int32) (v6 : Int32) (s0 : Int32) (s1 : Int32) x, f_26_65 N h v0 v1 v2 v3 v4 v5 v6 s0 s1 = some x → pb_kk (fun (s_ : Int32 × Int32) => G 35 [(0, .ref v0), (1, .int v1), (2, .int v2), (3, .int v3), (4, .int v4), (5, .int s_.1), (6, .int s_.2)] [] h) (fun (e_ : (Int32) ⊕ (Int32)) => pb_kk (fun (q_ : Int32) => q_ = r) (fun (x_ : Int32) => G 121 [(5, .int x_)] [] h) e_) x → G 65 [(0, .ref v0), (1, .int v1), (2, .int v2), (3, .int v3), (4, .int v4), (5, .int v5), (6, .int v6)] [.int s0, .int s1] h := by
    intro v0 v1 v2 v3 v4 v5 v6 s0 s1 x hf hk
    unfold f_26_65 at hf
    refine hG.1 5 65 kb_26_65 _ _ _ rfl ?_
    refine And.intro (fun (hc14 : v6 = v2) => ?_) (fun (hc14 : ¬ (v6 = v2)) => ?_)
    · rw [if_pos hc14] at hf
      refine hG.1 7 115 kb_26_115 _ _ _ rfl ?_
      cases hf
      exact hG.2 35 _ [0, 1, 2, 3, 4, 5, 6] _ _ _ rfl hk
    · rw [if_neg hc14] at hf
      obtain ⟨hg7, hf⟩ := pb_gd hf
      obtain ⟨r8, cr8, hf⟩ := Option.bind_eq_some_iff.mp hf
      refine And.intro hg7 (And.intro (Nat.le_of_ble_eq_true rfl) (And.intro (Nat.le_of_ble_eq_true rfl) (Exists.intro (some (.int r8)) (Exists.intro _ (And.intro (l_9 cr8) (?_))))))
      refine And.intro (fun (hc13 : r8 = ((-1))) => ?_) (fun (hc13 : ¬ (r8 = ((-1)))) => ?_)
      · rw [if_pos hc13] at hf
        refine hG.1 7 115 kb_26_115 _ _ _ rfl ?_
        cases hf
        exact hG.2 35 _ [0, 1, 2, 3, 4, 5, 6] _ _ _ rfl hk
      · rw [if_neg hc13] at hf
        refine And.intro (fun (hc12 : (s1 + s0) ≤ 0) => ?_) (fun (hc12 : ¬ ((s1 + s0) ≤ 0)) => ?_)
        · rw [if_pos hc12] at hf
          refine hG.1 7 115 kb_26_115 _ _ _ rfl ?_
          cases hf
          exact hG.2 35 _ [0, 1, 2, 3, 4, 5, 6] _ _ _ rfl hk
        · rw [if_neg hc12] at hf
          obtain ⟨q9, eq9, hf⟩ := Option.bind_eq_some_iff.mp hf
          obtain ⟨hg10, hf⟩ := pb_gd hf
          refine And.intro hg7 (Exists.intro q9 (And.intro eq9 (And.intro hg10 (?_))))
          refine And.intro (fun (hc11 : (((pb_I h q9 v6.toNatClampNeg) >>> (v3 &&& 31)) &&& 1) = 0) => ?_) (fun (hc11 : ¬ ((((pb_I h q9 v6.toNatClampNeg) >>> (v3 &&& 31)) &&& 1) = 0)) => ?_)
          · rw [if_pos hc11] at hf
            refine hG.1 6 106 kb_26_106 _ _ _ rfl ?_
            refine And.intro (Nat.le_of_ble_eq_true rfl) (?_)
            refine hG.1 7 115 kb_26_115 _ _ _ rfl ?_
            cases hf
            exact hG.2 35 _ [0, 1, 2, 3, 4, 5, 6] _ _ _ rfl hk
          · rw [if_neg hc11] at hf
            cases hf
            cases hk
            exact And.intro (fun z_ => absurd z_ (by decide)) (And.intro rfl rfl)
  have hl_35 : ∀ (v0 : Nat) (v1 : Int32) (v2 : Int32) (v3 : Int32) (v4 : Int32) (n_ : Nat) (s : Int32 × Int32) (e : (Int32) ⊕ (Int32)), pb_wl (f_26_35s N h v0 v1 v2 v3 v4) n_ s = some e → pb_kk (fun (q_ : Int32) => q_ = r) (fun (x_ : Int32) => G 121 [(5, .int x_)] [] h) e → G 35 [(0, .ref v0), (1, .int v1), (2, .int v2), (3, .int v3), (4, .int v4), (5, .int s.1), (6, .int s.2)] [] h := by
    intro v0 v1 v2 v3 v4
    refine pb_wl_ind (I := fun (s : Int32 × Int32) => G 35 [(0, .ref v0), (1, .int v1), (2, .int v2), (3, .int v3), (4, .int v4), (5, .int s.1), (6, .int s.2)] [] h) (K := fun (e : (Int32) ⊕ (Int32)) => pb_kk (fun (q_ : Int32) => q_ = r) (fun (x_ : Int32) => G 121 [(5, .int x_)] [] h) e) (fun s x hf hk => ?_)
    unfold f_26_35s at hf
    refine hG.1 3 35 kb_26_35 _ _ _ rfl ?_
    obtain ⟨hg5, hf⟩ := pb_gd hf
    refine And.intro hg5 (?_)
    refine And.intro (fun (hc16 : (pb_I h v0 0) ≤ s.2) => ?_) (fun (hc16 : ¬ ((pb_I h v0 0) ≤ s.2)) => ?_)
    · rw [if_pos hc16] at hf
      cases hf
      exact hG.2 121 _ [5] _ _ _ rfl hk
    · rw [if_neg hc16] at hf
      obtain ⟨r6, cr6, hf⟩ := Option.bind_eq_some_iff.mp hf
      refine And.intro hg5 (And.intro (Nat.le_of_ble_eq_true rfl) (And.intro (Nat.le_of_ble_eq_true rfl) (Exists.intro (some (.int r6)) (Exists.intro _ (And.intro (l_9 cr6) (?_))))))
      refine And.intro (fun (hc15 : v2 ≤ s.2) => ?_) (fun (hc15 : ¬ (v2 ≤ s.2)) => ?_)
      · rw [if_pos hc15] at hf
        refine hG.1 4 64 kb_26_64 _ _ _ rfl ?_
        exact hj_65 _ _ _ _ _ _ _ _ _ _ hf hk
      · rw [if_neg hc15] at hf
        exact hj_65 _ _ _ _ _ _ _ _ _ _ hf hk
  unfold f_26 at hf
  refine hG.1 0 0 kb_26_0 _ _ _ rfl ?_
  obtain ⟨hg1, hf⟩ := pb_gd hf
  obtain ⟨r2, cr2, hf⟩ := Option.bind_eq_some_iff.mp hf
  refine And.intro hg1 (And.intro (Nat.le_of_ble_eq_true rfl) (And.intro (Nat.le_of_ble_eq_true rfl) (Exists.intro (some (.int r2)) (Exists.intro _ (And.intro (l_9 cr2) (?_))))))
  refine And.intro (fun (hc21 : r2 = ((-1))) => ?_) (fun (hc21 : ¬ (r2 = ((-1)))) => ?_)
  · rw [if_pos hc21] at hf
    refine hG.1 1 27 kb_26_27 _ _ _ rfl ?_
    cases hf
    exact And.intro (fun z_ => absurd z_ (by decide)) (And.intro rfl rfl)
  · rw [if_neg hc21] at hf
    obtain ⟨q3, eq3, hf⟩ := Option.bind_eq_some_iff.mp hf
    obtain ⟨hg4, hf⟩ := pb_gd hf
    refine And.intro hg1 (Exists.intro q3 (And.intro eq3 (And.intro hg4 (?_))))
    refine And.intro (fun (hc20 : ¬ (((pb_I h q3 v2.toNatClampNeg) >>> (v3 &&& 31)) &&& 1) = 0) => ?_) (fun (hc20 : ¬ (¬ (((pb_I h q3 v2.toNatClampNeg) >>> (v3 &&& 31)) &&& 1) = 0)) => ?_)
    · rw [if_pos hc20] at hf
      refine hG.1 2 29 kb_26_29 _ _ _ rfl ?_
      obtain ⟨e17, he_e17, hf⟩ := Option.bind_eq_some_iff.mp hf
      refine hl_35 _ _ _ _ _ _ _ _ he_e17 ?_
      cases e17 with
      | inl q19 =>
        exact Option.some.inj hf
      | inr x18 =>
        try dsimp only at hf
        refine hG.1 8 121 kb_26_121 _ _ _ rfl ?_
        cases hf
        exact And.intro (fun z_ => absurd z_ (by decide)) (And.intro rfl rfl)
    · rw [if_neg hc20] at hf
      refine hG.1 1 27 kb_26_27 _ _ _ rfl ?_
      cases hf
      exact And.intro (fun z_ => absurd z_ (by decide)) (And.intro rfl rfl)
/-- Course.begin -/
def f_28 (h : pb_HP) (v0 : Nat) (v1 : Nat) : Option (pb_HP) :=
  if pb_is h v0 1 then ((pb_R h v0 0).bind fun q2 => (if pb_is h q2 0 then ((f_2 h q2 v1).bind fun h5 => (if pb_is h5 v0 1 then (some (pb_pI (pb_pI (pb_pI (pb_pI h5 v0 4 0) v0 5 6) v0 6 0) v0 7 0)) else none)) else none)) else none
set_option maxRecDepth 4000 in
theorem l_28 {xs : List Int32} {d : Nat} {h : pb_HP} {v0 : Nat} {v1 : Nat} {hE : pb_HP} (hf : f_28 h v0 v1 = some hE) : pb_AR xs (d + 2) 28 h [.ref v0, .ref v1] none hE := by
  intro G hG
  have hc_ : pb_CODE 28 = kc_28 := rfl
  rw [hc_] at hG
  unfold f_28 at hf
  refine hG.1 0 0 kb_28_0 _ _ _ rfl ?_
  obtain ⟨hg1, hf⟩ := pb_gd hf
  obtain ⟨q2, eq2, hf⟩ := Option.bind_eq_some_iff.mp hf
  obtain ⟨hg3, hf⟩ := pb_gd hf
  refine And.intro hg1 (Exists.intro q2 (And.intro eq2 (?_)))
  obtain ⟨h5, cr4, hf⟩ := Option.bind_eq_some_iff.mp hf
  refine And.intro hg3 (And.intro (Nat.le_of_ble_eq_true rfl) (And.intro (Nat.le_of_ble_eq_true rfl) (Exists.intro none (Exists.intro _ (And.intro (l_2 cr4) (?_))))))
  obtain ⟨hg6, hf⟩ := pb_gd hf
  refine And.intro hg6 (And.intro hg6 (And.intro hg6 (And.intro hg6 (?_))))
  cases hf
  exact And.intro rfl rfl
/-- Course.turnTrait -/
def f_32 (h : pb_HP) (v0 : Nat) (v1 : Int32) (v2 : Int32) (v3 : Int32) : Option (Int32 × pb_HP) :=
  if pb_is h v0 1 then ((pb_R h v0 0).bind fun q2 => (if pb_is h q2 0 then ((f_3 h q2 v1).bind fun r4 => (if ¬ r4 = 0 then (if v3 = 0 then ((pb_R h q2 3).bind fun q5 => (if pb_ar h q5 12 v1 then (some ((1, pb_pI h q5 v1.toNatClampNeg ((pb_I h q5 v1.toNatClampNeg) &&& (((1 : Int32) <<< (v2 &&& 31)) ^^^ ((-1))))))) else none)) else ((pb_R h q2 3).bind fun q7 => (if pb_ar h q7 12 v1 then (some ((1, pb_pI h q7 v1.toNatClampNeg ((pb_I h q7 v1.toNatClampNeg) ||| ((1 : Int32) <<< (v2 &&& 31)))))) else none))) else (some ((0, h))))) else none)) else none
set_option maxRecDepth 4000 in
theorem l_32 {xs : List Int32} {d : Nat} {h : pb_HP} {v0 : Nat} {v1 : Int32} {v2 : Int32} {v3 : Int32} {r : Int32} {hE : pb_HP} (hf : f_32 h v0 v1 v2 v3 = some ((r, hE))) : pb_AR xs (d + 2) 32 h [.ref v0, .int v1, .int v2, .int v3] (some (.int r)) hE := by
  intro G hG
  have hc_ : pb_CODE 32 = kc_32 := rfl
  rw [hc_] at hG
  unfold f_32 at hf
  refine hG.1 0 0 kb_32_0 _ _ _ rfl ?_
  obtain ⟨hg1, hf⟩ := pb_gd hf
  obtain ⟨q2, eq2, hf⟩ := Option.bind_eq_some_iff.mp hf
  obtain ⟨hg3, hf⟩ := pb_gd hf
  refine And.intro hg1 (Exists.intro q2 (And.intro eq2 (?_)))
  obtain ⟨r4, cr4, hf⟩ := Option.bind_eq_some_iff.mp hf
  refine And.intro hg3 (And.intro (Nat.le_of_ble_eq_true rfl) (And.intro (Nat.le_of_ble_eq_true rfl) (Exists.intro (some (.int r4)) (Exists.intro _ (And.intro (l_3 cr4) (?_))))))
  refine And.intro (fun (hc10 : ¬ r4 = 0) => ?_) (fun (hc10 : ¬ (¬ r4 = 0)) => ?_)
  · rw [if_pos hc10] at hf
    refine hG.1 1 13 kb_32_13 _ _ _ rfl ?_
    refine And.intro (fun (hc9 : v3 = 0) => ?_) (fun (hc9 : ¬ (v3 = 0)) => ?_)
    · rw [if_pos hc9] at hf
      refine hG.1 2 35 kb_32_35 _ _ _ rfl ?_
      obtain ⟨q5, eq5, hf⟩ := Option.bind_eq_some_iff.mp hf
      obtain ⟨hg6, hf⟩ := pb_gd hf
      refine And.intro hg1 (Exists.intro q2 (And.intro eq2 (And.intro hg3 (Exists.intro q5 (And.intro eq5 (And.intro hg6 (And.intro hg6 (?_))))))))
      refine hG.1 3 52 kb_32_52 _ _ _ rfl ?_
      cases hf
      exact And.intro (fun _ => Or.inr rfl) (And.intro rfl rfl)
    · rw [if_neg hc9] at hf
      obtain ⟨q7, eq7, hf⟩ := Option.bind_eq_some_iff.mp hf
      obtain ⟨hg8, hf⟩ := pb_gd hf
      refine And.intro hg1 (Exists.intro q2 (And.intro eq2 (And.intro hg3 (Exists.intro q7 (And.intro eq7 (And.intro hg8 (And.intro hg8 (?_))))))))
      refine hG.1 3 52 kb_32_52 _ _ _ rfl ?_
      cases hf
      exact And.intro (fun _ => Or.inr rfl) (And.intro rfl rfl)
  · rw [if_neg hc10] at hf
    cases hf
    exact And.intro (fun _ => Or.inl rfl) (And.intro rfl rfl)
/-- Course.frighten -/
def f_33 (h : pb_HP) (v0 : Nat) (v1 : Int32) (v2 : Int32) : Option (Int32 × pb_HP) :=
  if pb_is h v0 1 then ((pb_R h v0 0).bind fun q2 => (if pb_is h q2 0 then ((f_4 h q2 v1).bind fun r4 => (if ¬ r4 = 0 then ((pb_R h q2 6).bind fun q5 => (if pb_ar h q5 12 v1 then (some ((1, pb_pI h q5 v1.toNatClampNeg ((pb_I h q5 v1.toNatClampNeg) ||| ((1 : Int32) <<< (v2 &&& 31)))))) else none)) else (some ((0, h))))) else none)) else none
set_option maxRecDepth 4000 in
theorem l_33 {xs : List Int32} {d : Nat} {h : pb_HP} {v0 : Nat} {v1 : Int32} {v2 : Int32} {r : Int32} {hE : pb_HP} (hf : f_33 h v0 v1 v2 = some ((r, hE))) : pb_AR xs (d + 2) 33 h [.ref v0, .int v1, .int v2] (some (.int r)) hE := by
  intro G hG
  have hc_ : pb_CODE 33 = kc_33 := rfl
  rw [hc_] at hG
  unfold f_33 at hf
  refine hG.1 0 0 kb_33_0 _ _ _ rfl ?_
  obtain ⟨hg1, hf⟩ := pb_gd hf
  obtain ⟨q2, eq2, hf⟩ := Option.bind_eq_some_iff.mp hf
  obtain ⟨hg3, hf⟩ := pb_gd hf
  refine And.intro hg1 (Exists.intro q2 (And.intro eq2 (?_)))
  obtain ⟨r4, cr4, hf⟩ := Option.bind_eq_some_iff.mp hf
  refine And.intro hg3 (And.intro (Nat.le_of_ble_eq_true rfl) (And.intro (Nat.le_of_ble_eq_true rfl) (Exists.intro (some (.int r4)) (Exists.intro _ (And.intro (l_4 cr4) (?_))))))
  refine And.intro (fun (hc7 : ¬ r4 = 0) => ?_) (fun (hc7 : ¬ (¬ r4 = 0)) => ?_)
  · rw [if_pos hc7] at hf
    refine hG.1 1 13 kb_33_13 _ _ _ rfl ?_
    obtain ⟨q5, eq5, hf⟩ := Option.bind_eq_some_iff.mp hf
    obtain ⟨hg6, hf⟩ := pb_gd hf
    refine And.intro hg1 (Exists.intro q2 (And.intro eq2 (And.intro hg3 (Exists.intro q5 (And.intro eq5 (And.intro hg6 (And.intro hg6 (?_))))))))
    cases hf
    exact And.intro (fun _ => Or.inr rfl) (And.intro rfl rfl)
  · rw [if_neg hc7] at hf
    cases hf
    exact And.intro (fun _ => Or.inl rfl) (And.intro rfl rfl)
/-- Course.indulge -/
def f_34 (h : pb_HP) (v0 : Nat) (v1 : Int32) (v2 : Int32) (v3 : Int32) : Option (Int32 × pb_HP) :=
  if pb_is h v0 1 then ((pb_R h v0 0).bind fun q2 => (if pb_is h q2 0 then ((f_4 h q2 v1).bind fun r4 => (if r4 = 0 then (some ((0, h))) else (if v2 < 0 then (some ((0, h))) else (if v2 < 6 then ((pb_R h q2 7).bind fun q5 => (if pb_ar h q5 12 ((v1 * 6) + v2) then (some ((1, pb_pI h q5 ((v1 * 6) + v2).toNatClampNeg (if (pb_I h q5 ((v1 * 6) + v2).toNatClampNeg) + v3 < 9 then (pb_I h q5 ((v1 * 6) + v2).toNatClampNeg) + v3 else 9)))) else none)) else (some ((0, h))))))) else none)) else none
set_option maxRecDepth 4000 in
theorem l_34 {xs : List Int32} {d : Nat} {h : pb_HP} {v0 : Nat} {v1 : Int32} {v2 : Int32} {v3 : Int32} {r : Int32} {hE : pb_HP} (hf : f_34 h v0 v1 v2 v3 = some ((r, hE))) : pb_AR xs (d + 2) 34 h [.ref v0, .int v1, .int v2, .int v3] (some (.int r)) hE := by
  intro G hG
  have hc_ : pb_CODE 34 = kc_34 := rfl
  rw [hc_] at hG
  unfold f_34 at hf
  refine hG.1 0 0 kb_34_0 _ _ _ rfl ?_
  obtain ⟨hg1, hf⟩ := pb_gd hf
  obtain ⟨q2, eq2, hf⟩ := Option.bind_eq_some_iff.mp hf
  obtain ⟨hg3, hf⟩ := pb_gd hf
  refine And.intro hg1 (Exists.intro q2 (And.intro eq2 (?_)))
  obtain ⟨r4, cr4, hf⟩ := Option.bind_eq_some_iff.mp hf
  refine And.intro hg3 (And.intro (Nat.le_of_ble_eq_true rfl) (And.intro (Nat.le_of_ble_eq_true rfl) (Exists.intro (some (.int r4)) (Exists.intro _ (And.intro (l_4 cr4) (?_))))))
  refine And.intro (fun (hc9 : r4 = 0) => ?_) (fun (hc9 : ¬ (r4 = 0)) => ?_)
  · rw [if_pos hc9] at hf
    refine hG.1 1 21 kb_34_21 _ _ _ rfl ?_
    cases hf
    exact And.intro (fun _ => Or.inl rfl) (And.intro rfl rfl)
  · rw [if_neg hc9] at hf
    refine And.intro (fun (hc8 : v2 < 0) => ?_) (fun (hc8 : ¬ (v2 < 0)) => ?_)
    · rw [if_pos hc8] at hf
      refine hG.1 1 21 kb_34_21 _ _ _ rfl ?_
      cases hf
      exact And.intro (fun _ => Or.inl rfl) (And.intro rfl rfl)
    · rw [if_neg hc8] at hf
      refine And.intro (fun (hc7 : v2 < 6) => ?_) (fun (hc7 : ¬ (v2 < 6)) => ?_)
      · rw [if_pos hc7] at hf
        refine hG.1 2 23 kb_34_23 _ _ _ rfl ?_
        obtain ⟨q5, eq5, hf⟩ := Option.bind_eq_some_iff.mp hf
        obtain ⟨hg6, hf⟩ := pb_gd hf
        refine And.intro hg1 (Exists.intro q2 (And.intro eq2 (And.intro hg3 (Exists.intro q5 (And.intro eq5 (And.intro hg1 (Exists.intro q2 (And.intro eq2 (And.intro hg3 (Exists.intro q5 (And.intro eq5 (And.intro hg6 (And.intro (Nat.le_of_ble_eq_true rfl) (And.intro hg6 (?_)))))))))))))))
        cases hf
        exact And.intro (fun _ => Or.inr rfl) (And.intro rfl rfl)
      · rw [if_neg hc7] at hf
        refine hG.1 1 21 kb_34_21 _ _ _ rfl ?_
        cases hf
        exact And.intro (fun _ => Or.inl rfl) (And.intro rfl rfl)
/-- Course.letOut -/
def f_35 (h : pb_HP) (v0 : Nat) (v1 : Int32) : Option (Int32 × pb_HP) :=
  if pb_is h v0 1 then ((pb_R h v0 0).bind fun q2 => (if pb_is h q2 0 then ((f_4 h q2 v1).bind fun r4 => (if r4 = 0 then (some ((0, h))) else (if (pb_I h v0 5) = 6 then (some ((0, h))) else ((f_12 h q2 (pb_I h v0 5) v1).bind fun r5 => (if ¬ r5 = 0 then ((pb_R h q2 5).bind fun q6 => (if pb_ar h q6 12 v1 then (some ((1, pb_pI (pb_pI h q6 v1.toNatClampNeg 0) v0 7 ((pb_I (pb_pI h q6 v1.toNatClampNeg 0) v0 7) + 1)))) else none)) else (some ((0, h)))))))) else none)) else none
set_option maxRecDepth 4000 in
theorem l_35 {xs : List Int32} {d : Nat} {h : pb_HP} {v0 : Nat} {v1 : Int32} {r : Int32} {hE : pb_HP} (hf : f_35 h v0 v1 = some ((r, hE))) : pb_AR xs (d + 2) 35 h [.ref v0, .int v1] (some (.int r)) hE := by
  intro G hG
  have hc_ : pb_CODE 35 = kc_35 := rfl
  rw [hc_] at hG
  unfold f_35 at hf
  refine hG.1 0 0 kb_35_0 _ _ _ rfl ?_
  obtain ⟨hg1, hf⟩ := pb_gd hf
  obtain ⟨q2, eq2, hf⟩ := Option.bind_eq_some_iff.mp hf
  obtain ⟨hg3, hf⟩ := pb_gd hf
  refine And.intro hg1 (Exists.intro q2 (And.intro eq2 (?_)))
  obtain ⟨r4, cr4, hf⟩ := Option.bind_eq_some_iff.mp hf
  refine And.intro hg3 (And.intro (Nat.le_of_ble_eq_true rfl) (And.intro (Nat.le_of_ble_eq_true rfl) (Exists.intro (some (.int r4)) (Exists.intro _ (And.intro (l_4 cr4) (?_))))))
  refine And.intro (fun (hc10 : r4 = 0) => ?_) (fun (hc10 : ¬ (r4 = 0)) => ?_)
  · rw [if_pos hc10] at hf
    refine hG.1 1 35 kb_35_35 _ _ _ rfl ?_
    cases hf
    exact And.intro (fun _ => Or.inl rfl) (And.intro rfl rfl)
  · rw [if_neg hc10] at hf
    refine And.intro hg1 (?_)
    refine And.intro (fun (hc9 : (pb_I h v0 5) = 6) => ?_) (fun (hc9 : ¬ ((pb_I h v0 5) = 6)) => ?_)
    · rw [if_pos hc9] at hf
      refine hG.1 1 35 kb_35_35 _ _ _ rfl ?_
      cases hf
      exact And.intro (fun _ => Or.inl rfl) (And.intro rfl rfl)
    · rw [if_neg hc9] at hf
      refine And.intro hg1 (Exists.intro q2 (And.intro eq2 (And.intro hg1 (?_))))
      obtain ⟨r5, cr5, hf⟩ := Option.bind_eq_some_iff.mp hf
      refine And.intro hg3 (And.intro (Nat.le_of_ble_eq_true rfl) (And.intro (Nat.le_of_ble_eq_true rfl) (Exists.intro (some (.int r5)) (Exists.intro _ (And.intro (l_12 cr5) (?_))))))
      refine And.intro (fun (hc8 : ¬ r5 = 0) => ?_) (fun (hc8 : ¬ (¬ r5 = 0)) => ?_)
      · rw [if_pos hc8] at hf
        refine hG.1 2 37 kb_35_37 _ _ _ rfl ?_
        obtain ⟨q6, eq6, hf⟩ := Option.bind_eq_some_iff.mp hf
        obtain ⟨hg7, hf⟩ := pb_gd hf
        refine And.intro hg1 (Exists.intro q2 (And.intro eq2 (And.intro hg3 (Exists.intro q6 (And.intro eq6 (And.intro hg7 (And.intro hg1 (And.intro hg1 (?_)))))))))
        cases hf
        exact And.intro (fun _ => Or.inr rfl) (And.intro rfl rfl)
      · rw [if_neg hc8] at hf
        refine hG.1 1 35 kb_35_35 _ _ _ rfl ?_
        cases hf
        exact And.intro (fun _ => Or.inl rfl) (And.intro rfl rfl)
def f_48_36 (N : Nat) (h : pb_HP) (v0 : Nat) (v1 : Int32) (v3 : Int32) (s0 : Int32) (s1 : Int32) : Option ((Int32 × Int32) ⊕ (Int32)) :=
  (f_305 s0).bind fun r6 => (some (.inl ((s1 + r6, v3 + 1))))
def f_48_4s (N : Nat) (h : pb_HP) (v0 : Nat) (v1 : Int32) (s : Int32 × Int32) : Option ((Int32 × Int32) ⊕ (Int32)) :=
  if 6 ≤ s.2 then (some (.inr s.1)) else (if ¬ v1 = 0 then (if pb_is h v0 1 then ((pb_R h v0 0).bind fun q2 => (if pb_is h q2 0 then ((pb_R h q2 6).bind fun q4 => (if pb_ar h q4 12 s.2 then (f_48_36 N h v0 v1 s.2 (pb_I h q4 s.2.toNatClampNeg) s.1) else none)) else none)) else none) else (if pb_is h v0 1 then ((pb_R h v0 0).bind fun q8 => (if pb_is h q8 0 then ((pb_R h q8 3).bind fun q10 => (if pb_ar h q10 12 s.2 then (f_48_36 N h v0 v1 s.2 (pb_I h q10 s.2.toNatClampNeg) s.1) else none)) else none)) else none))
/-- Course.bitsOf -/
def f_48 (N : Nat) (h : pb_HP) (v0 : Nat) (v1 : Int32) : Option (Int32) :=
  (pb_wl (f_48_4s N h v0 v1) N ((0, 0))).bind fun e14 => (some e14)
set_option maxRecDepth 4000 in
theorem l_48 {xs : List Int32} {d : Nat} {N : Nat} {h : pb_HP} {v0 : Nat} {v1 : Int32} {r : Int32} (hf : f_48 N h v0 v1 = some r) : pb_AR xs (d + 2) 48 h [.ref v0, .int v1] (some (.int r)) h := by
  intro G hG
  have hc_ : pb_CODE 48 = kc_48 := rfl
  rw [hc_] at hG
  have hj_36 : ∀ (v0 : Nat) (v1 : Int32) (v3 : Int32) (s0 : Int32) (s1 : Int32) x, f_48_36 N h v0 v1 v3 s0 s1 = some x → pb_kk (fun (s_ : Int32 × Int32) => G 4 [(0, .ref v0), (1, .int v1), (2, .int s_.1), (3, .int s_.2)] [] h) (fun (e_ : Int32) => G 47 [(2, .int e_)] [] h) x → G 36 [(0, .ref v0), (1, .int v1), (3, .int v3)] [.int s0, .int s1] h := by
    intro v0 v1 v3 s0 s1 x hf hk
    unfold f_48_36 at hf
    refine hG.1 3 36 kb_48_36 _ _ _ rfl ?_
    obtain ⟨r6, cr6, hf⟩ := Option.bind_eq_some_iff.mp hf
    refine And.intro (Nat.le_of_ble_eq_true rfl) (And.intro (Nat.le_of_ble_eq_true rfl) (And.intro (Nat.le_of_ble_eq_true rfl) (Exists.intro (some (.int r6)) (Exists.intro _ (And.intro (l_305 cr6) (?_))))))
    cases hf
    exact hG.2 4 _ [0, 1, 3, 2] _ _ _ rfl hk
  have hl_4 : ∀ (v0 : Nat) (v1 : Int32) (n_ : Nat) (s : Int32 × Int32) (e : Int32), pb_wl (f_48_4s N h v0 v1) n_ s = some e → G 47 [(2, .int e)] [] h → G 4 [(0, .ref v0), (1, .int v1), (2, .int s.1), (3, .int s.2)] [] h := by
    intro v0 v1
    refine pb_wl_ind (I := fun (s : Int32 × Int32) => G 4 [(0, .ref v0), (1, .int v1), (2, .int s.1), (3, .int s.2)] [] h) (K := fun (e : Int32) => G 47 [(2, .int e)] [] h) (fun s x hf hk => ?_)
    unfold f_48_4s at hf
    refine hG.1 1 4 kb_48_4 _ _ _ rfl ?_
    refine And.intro (fun (hc13 : 6 ≤ s.2) => ?_) (fun (hc13 : ¬ (6 ≤ s.2)) => ?_)
    · rw [if_pos hc13] at hf
      cases hf
      exact hG.2 47 _ [2] _ _ _ rfl hk
    · rw [if_neg hc13] at hf
      refine And.intro (fun (hc12 : ¬ v1 = 0) => ?_) (fun (hc12 : ¬ (¬ v1 = 0)) => ?_)
      · rw [if_pos hc12] at hf
        refine hG.1 2 27 kb_48_27 _ _ _ rfl ?_
        obtain ⟨hg1, hf⟩ := pb_gd hf
        obtain ⟨q2, eq2, hf⟩ := Option.bind_eq_some_iff.mp hf
        obtain ⟨hg3, hf⟩ := pb_gd hf
        obtain ⟨q4, eq4, hf⟩ := Option.bind_eq_some_iff.mp hf
        obtain ⟨hg5, hf⟩ := pb_gd hf
        refine And.intro hg1 (Exists.intro q2 (And.intro eq2 (And.intro hg3 (Exists.intro q4 (And.intro eq4 (And.intro hg5 (?_)))))))
        refine hG.2 36 _ [0, 1, 3] _ _ _ rfl ?_
        exact hj_36 _ _ _ _ _ _ hf hk
      · rw [if_neg hc12] at hf
        obtain ⟨hg7, hf⟩ := pb_gd hf
        obtain ⟨q8, eq8, hf⟩ := Option.bind_eq_some_iff.mp hf
        obtain ⟨hg9, hf⟩ := pb_gd hf
        obtain ⟨q10, eq10, hf⟩ := Option.bind_eq_some_iff.mp hf
        obtain ⟨hg11, hf⟩ := pb_gd hf
        refine And.intro hg7 (Exists.intro q8 (And.intro eq8 (And.intro hg9 (Exists.intro q10 (And.intro eq10 (And.intro hg11 (?_)))))))
        refine hG.2 36 _ [0, 1, 3] _ _ _ rfl ?_
        exact hj_36 _ _ _ _ _ _ hf hk
  unfold f_48 at hf
  refine hG.1 0 0 kb_48_0 _ _ _ rfl ?_
  obtain ⟨e14, he_e14, hf⟩ := Option.bind_eq_some_iff.mp hf
  refine hl_4 _ _ _ _ _ he_e14 ?_
  refine hG.1 4 47 kb_48_47 _ _ _ rfl ?_
  cases hf
  exact And.intro (fun z_ => absurd z_ (by decide)) (And.intro rfl rfl)
def f_51_2s (N : Nat) (v0 : Nat) (v1 : Nat) (v2 : Int32) (s : Int32 × pb_HP) : Option ((Int32 × pb_HP) ⊕ (pb_HP)) :=
  if pb_is s.2 v0 2 then (if (pb_I s.2 v0 1) ≤ s.1 then (some (.inr s.2)) else ((pb_R s.2 v0 3).bind fun q2 => (if pb_is s.2 v1 0 then ((f_9 N s.2 v1 v2 s.1).bind fun r4 => (if pb_ar s.2 q2 12 s.1 then (some (.inl ((s.1 + 1, pb_pI s.2 q2 s.1.toNatClampNeg r4)))) else none)) else none))) else none
def f_51_41s (N : Nat) (v0 : Nat) (v3 : Int32) (s : Int32 × pb_HP) : Option ((Int32 × pb_HP) ⊕ (pb_HP)) :=
  if pb_is s.2 v0 2 then (if (pb_I s.2 v0 1) ≤ s.1 then (some (.inr s.2)) else ((pb_R s.2 v0 3).bind fun q10 => (if pb_ar s.2 q10 12 v3 then (if pb_ar s.2 q10 12 s.1 then (if (pb_I s.2 q10 v3.toNatClampNeg) ≤ (pb_I s.2 q10 s.1.toNatClampNeg) then (some (.inl ((s.1 + 1, s.2)))) else ((pb_R s.2 v0 2).bind fun q13 => (if pb_ar s.2 q13 12 ((v3 * 6) + s.1) then (some (.inl ((s.1 + 1, pb_pI s.2 q13 ((v3 * 6) + s.1).toNatClampNeg ((pb_I s.2 q13 ((v3 * 6) + s.1).toNatClampNeg) + 1))))) else none))) else none) else none))) else none
def f_51_30s (N : Nat) (v0 : Nat) (s : Int32 × pb_HP) : Option ((Int32 × pb_HP) ⊕ (pb_HP)) :=
  if pb_is s.2 v0 2 then (if (pb_I s.2 v0 1) ≤ s.1 then (some (.inr s.2)) else ((pb_wl (f_51_41s N v0 s.1) N ((0, s.2))).bind fun e17 => (some (.inl ((s.1 + 1, e17)))))) else none
/-- Duels.holdBefore -/
def f_51 (N : Nat) (h : pb_HP) (v0 : Nat) (v1 : Nat) (v2 : Int32) : Option (pb_HP) :=
  (pb_wl (f_51_2s N v0 v1 v2) N ((0, h))).bind fun e7 => ((pb_wl (f_51_30s N v0) N ((0, e7))).bind fun e19 => (some e19))
set_option maxRecDepth 4000 in
theorem l_51 {xs : List Int32} {d : Nat} {N : Nat} {h : pb_HP} {v0 : Nat} {v1 : Nat} {v2 : Int32} {hE : pb_HP} (hf : f_51 N h v0 v1 v2 = some hE) : pb_AR xs (d + 2) 51 h [.ref v0, .ref v1, .int v2] none hE := by
  intro G hG
  have hc_ : pb_CODE 51 = kc_51 := rfl
  rw [hc_] at hG
  have hl_2 : ∀ (v0 : Nat) (v1 : Nat) (v2 : Int32) (n_ : Nat) (s : Int32 × pb_HP) (e : pb_HP), pb_wl (f_51_2s N v0 v1 v2) n_ s = some e → G 28 [(0, .ref v0)] [] e → G 2 [(0, .ref v0), (1, .ref v1), (2, .int v2), (3, .int s.1)] [] s.2 := by
    intro v0 v1 v2
    refine pb_wl_ind (I := fun (s : Int32 × pb_HP) => G 2 [(0, .ref v0), (1, .ref v1), (2, .int v2), (3, .int s.1)] [] s.2) (K := fun (e : pb_HP) => G 28 [(0, .ref v0)] [] e) (fun s x hf hk => ?_)
    unfold f_51_2s at hf
    refine hG.1 1 2 kb_51_2 _ _ _ rfl ?_
    obtain ⟨hg1, hf⟩ := pb_gd hf
    refine And.intro hg1 (?_)
    refine And.intro (fun (hc6 : (pb_I s.2 v0 1) ≤ s.1) => ?_) (fun (hc6 : ¬ ((pb_I s.2 v0 1) ≤ s.1)) => ?_)
    · rw [if_pos hc6] at hf
      cases hf
      exact hG.2 28 _ [0] _ _ _ rfl hk
    · rw [if_neg hc6] at hf
      obtain ⟨q2, eq2, hf⟩ := Option.bind_eq_some_iff.mp hf
      obtain ⟨hg3, hf⟩ := pb_gd hf
      refine And.intro hg1 (Exists.intro q2 (And.intro eq2 (?_)))
      obtain ⟨r4, cr4, hf⟩ := Option.bind_eq_some_iff.mp hf
      refine And.intro hg3 (And.intro (Nat.le_of_ble_eq_true rfl) (And.intro (Nat.le_of_ble_eq_true rfl) (Exists.intro (some (.int r4)) (Exists.intro _ (And.intro (l_9 cr4) (?_))))))
      obtain ⟨hg5, hf⟩ := pb_gd hf
      refine And.intro hg5 (?_)
      cases hf
      exact hk
  have hl_41 : ∀ (v0 : Nat) (v3 : Int32) (n_ : Nat) (s : Int32 × pb_HP) (e : pb_HP), pb_wl (f_51_41s N v0 v3) n_ s = some e → G 88 [(0, .ref v0), (3, .int v3)] [] e → G 41 [(0, .ref v0), (3, .int v3), (4, .int s.1)] [] s.2 := by
    intro v0 v3
    refine pb_wl_ind (I := fun (s : Int32 × pb_HP) => G 41 [(0, .ref v0), (3, .int v3), (4, .int s.1)] [] s.2) (K := fun (e : pb_HP) => G 88 [(0, .ref v0), (3, .int v3)] [] e) (fun s x hf hk => ?_)
    unfold f_51_41s at hf
    refine hG.1 4 41 kb_51_41 _ _ _ rfl ?_
    obtain ⟨hg9, hf⟩ := pb_gd hf
    refine And.intro hg9 (?_)
    refine And.intro (fun (hc16 : (pb_I s.2 v0 1) ≤ s.1) => ?_) (fun (hc16 : ¬ ((pb_I s.2 v0 1) ≤ s.1)) => ?_)
    · rw [if_pos hc16] at hf
      cases hf
      exact hG.2 88 _ [0, 1] _ _ _ rfl hk
    · rw [if_neg hc16] at hf
      obtain ⟨q10, eq10, hf⟩ := Option.bind_eq_some_iff.mp hf
      obtain ⟨hg11, hf⟩ := pb_gd hf
      obtain ⟨hg12, hf⟩ := pb_gd hf
      refine And.intro hg9 (Exists.intro q10 (And.intro eq10 (And.intro hg11 (And.intro hg9 (Exists.intro q10 (And.intro eq10 (And.intro hg12 (?_))))))))
      refine And.intro (fun (hc15 : (pb_I s.2 q10 v3.toNatClampNeg) ≤ (pb_I s.2 q10 s.1.toNatClampNeg)) => ?_) (fun (hc15 : ¬ ((pb_I s.2 q10 v3.toNatClampNeg) ≤ (pb_I s.2 q10 s.1.toNatClampNeg))) => ?_)
      · rw [if_pos hc15] at hf
        refine hG.1 5 82 kb_51_82 _ _ _ rfl ?_
        cases hf
        exact hk
      · rw [if_neg hc15] at hf
        obtain ⟨q13, eq13, hf⟩ := Option.bind_eq_some_iff.mp hf
        obtain ⟨hg14, hf⟩ := pb_gd hf
        refine And.intro hg9 (Exists.intro q13 (And.intro eq13 (And.intro hg14 (And.intro hg14 (?_)))))
        refine hG.1 5 82 kb_51_82 _ _ _ rfl ?_
        cases hf
        exact hk
  have hl_30 : ∀ (v0 : Nat) (n_ : Nat) (s : Int32 × pb_HP) (e : pb_HP), pb_wl (f_51_30s N v0) n_ s = some e → G 94 [] [] e → G 30 [(0, .ref v0), (3, .int s.1)] [] s.2 := by
    intro v0
    refine pb_wl_ind (I := fun (s : Int32 × pb_HP) => G 30 [(0, .ref v0), (3, .int s.1)] [] s.2) (K := fun (e : pb_HP) => G 94 [] [] e) (fun s x hf hk => ?_)
    unfold f_51_30s at hf
    refine hG.1 3 30 kb_51_30 _ _ _ rfl ?_
    obtain ⟨hg8, hf⟩ := pb_gd hf
    refine And.intro hg8 (?_)
    refine And.intro (fun (hc18 : (pb_I s.2 v0 1) ≤ s.1) => ?_) (fun (hc18 : ¬ ((pb_I s.2 v0 1) ≤ s.1)) => ?_)
    · rw [if_pos hc18] at hf
      cases hf
      exact hG.2 94 _ [] _ _ _ rfl hk
    · rw [if_neg hc18] at hf
      obtain ⟨e17, he_e17, hf⟩ := Option.bind_eq_some_iff.mp hf
      refine hl_41 _ _ _ _ _ he_e17 ?_
      refine hG.1 6 88 kb_51_88 _ _ _ rfl ?_
      cases hf
      exact hk
  unfold f_51 at hf
  refine hG.1 0 0 kb_51_0 _ _ _ rfl ?_
  obtain ⟨e7, he_e7, hf⟩ := Option.bind_eq_some_iff.mp hf
  refine hl_2 _ _ _ _ _ _ he_e7 ?_
  refine hG.1 2 28 kb_51_28 _ _ _ rfl ?_
  obtain ⟨e19, he_e19, hf⟩ := Option.bind_eq_some_iff.mp hf
  refine hl_30 _ _ _ _ he_e19 ?_
  refine hG.1 7 94 kb_51_94 _ _ _ rfl ?_
  cases hf
  exact And.intro rfl rfl
def f_53_14s (N : Nat) (h : pb_HP) (v0 : Nat) (v1 : Int32) (s : Int32 × Int32) : Option ((Int32 × Int32) ⊕ (Int32)) :=
  if pb_is h v0 2 then (if (pb_I h v0 1) ≤ s.2 then (some (.inr s.1)) else ((f_52 h v0 v1 s.2).bind fun r3 => ((f_52 h v0 s.2 v1).bind fun r4 => (if r3 ≤ r4 then (some (.inl ((s.1, s.2 + 1)))) else (some (.inl ((s.1 + 1, s.2 + 1)))))))) else none
def f_53_2s (N : Nat) (h : pb_HP) (v0 : Nat) (s : Int32) : Option ((Int32) ⊕ ((Int32) ⊕ (Unit))) :=
  if pb_is h v0 2 then (if (pb_I h v0 1) ≤ s then (some (.inr (.inr (())))) else ((pb_wl (f_53_14s N h v0 s) N ((0, 0))).bind fun e7 => (if ¬ e7 = ((pb_I h v0 1) - 1) then (some (.inl (s + 1))) else (some (.inr (.inl s)))))) else none
/-- Duels.winner -/
def f_53 (N : Nat) (h : pb_HP) (v0 : Nat) : Option (Int32) :=
  (pb_wl (f_53_2s N h v0) N 0).bind fun e10 => (match e10 with | .inl q12 => some q12 | .inr x11 => some ((-1)))
set_option maxRecDepth 4000 in
theorem l_53 {xs : List Int32} {d : Nat} {N : Nat} {h : pb_HP} {v0 : Nat} {r : Int32} (hf : f_53 N h v0 = some r) : pb_AR xs (d + 2) 53 h [.ref v0] (some (.int r)) h := by
  intro G hG
  have hc_ : pb_CODE 53 = kc_53 := rfl
  rw [hc_] at hG
  have hl_14 : ∀ (v0 : Nat) (v1 : Int32) (n_ : Nat) (s : Int32 × Int32) (e : Int32), pb_wl (f_53_14s N h v0 v1) n_ s = some e → G 46 [(0, .ref v0), (1, .int v1), (2, .int e)] [] h → G 14 [(0, .ref v0), (1, .int v1), (2, .int s.1), (3, .int s.2)] [] h := by
    intro v0 v1
    refine pb_wl_ind (I := fun (s : Int32 × Int32) => G 14 [(0, .ref v0), (1, .int v1), (2, .int s.1), (3, .int s.2)] [] h) (K := fun (e : Int32) => G 46 [(0, .ref v0), (1, .int v1), (2, .int e)] [] h) (fun s x hf hk => ?_)
    unfold f_53_14s at hf
    refine hG.1 2 14 kb_53_14 _ _ _ rfl ?_
    obtain ⟨hg2, hf⟩ := pb_gd hf
    refine And.intro hg2 (?_)
    refine And.intro (fun (hc6 : (pb_I h v0 1) ≤ s.2) => ?_) (fun (hc6 : ¬ ((pb_I h v0 1) ≤ s.2)) => ?_)
    · rw [if_pos hc6] at hf
      cases hf
      exact hG.2 46 _ [0, 1, 2] _ _ _ rfl hk
    · rw [if_neg hc6] at hf
      obtain ⟨r3, cr3, hf⟩ := Option.bind_eq_some_iff.mp hf
      refine And.intro hg2 (And.intro (Nat.le_of_ble_eq_true rfl) (And.intro (Nat.le_of_ble_eq_true rfl) (Exists.intro (some (.int r3)) (Exists.intro _ (And.intro (l_52 cr3) (?_))))))
      obtain ⟨r4, cr4, hf⟩ := Option.bind_eq_some_iff.mp hf
      refine And.intro hg2 (And.intro (Nat.le_of_ble_eq_true rfl) (And.intro (Nat.le_of_ble_eq_true rfl) (Exists.intro (some (.int r4)) (Exists.intro _ (And.intro (l_52 cr4) (?_))))))
      refine And.intro (fun (hc5 : r3 ≤ r4) => ?_) (fun (hc5 : ¬ (r3 ≤ r4)) => ?_)
      · rw [if_pos hc5] at hf
        refine hG.1 3 40 kb_53_40 _ _ _ rfl ?_
        cases hf
        exact hk
      · rw [if_neg hc5] at hf
        refine hG.1 3 40 kb_53_40 _ _ _ rfl ?_
        cases hf
        exact hk
  have hl_2 : ∀ (v0 : Nat) (n_ : Nat) (s : Int32) (e : (Int32) ⊕ (Unit)), pb_wl (f_53_2s N h v0) n_ s = some e → pb_kk (fun (q_ : Int32) => q_ = r) (fun (x_ : Unit) => G 64 [] [] h) e → G 2 [(0, .ref v0), (1, .int s)] [] h := by
    intro v0
    refine pb_wl_ind (I := fun (s : Int32) => G 2 [(0, .ref v0), (1, .int s)] [] h) (K := fun (e : (Int32) ⊕ (Unit)) => pb_kk (fun (q_ : Int32) => q_ = r) (fun (x_ : Unit) => G 64 [] [] h) e) (fun s x hf hk => ?_)
    unfold f_53_2s at hf
    refine hG.1 1 2 kb_53_2 _ _ _ rfl ?_
    obtain ⟨hg1, hf⟩ := pb_gd hf
    refine And.intro hg1 (?_)
    refine And.intro (fun (hc9 : (pb_I h v0 1) ≤ s) => ?_) (fun (hc9 : ¬ ((pb_I h v0 1) ≤ s)) => ?_)
    · rw [if_pos hc9] at hf
      cases hf
      exact hG.2 64 _ [] _ _ _ rfl hk
    · rw [if_neg hc9] at hf
      obtain ⟨e7, he_e7, hf⟩ := Option.bind_eq_some_iff.mp hf
      refine hl_14 _ _ _ _ _ he_e7 ?_
      refine hG.1 4 46 kb_53_46 _ _ _ rfl ?_
      refine And.intro hg1 (?_)
      refine And.intro (fun (hc8 : ¬ e7 = ((pb_I h v0 1) - 1)) => ?_) (fun (hc8 : ¬ (¬ e7 = ((pb_I h v0 1) - 1))) => ?_)
      · rw [if_pos hc8] at hf
        refine hG.1 5 58 kb_53_58 _ _ _ rfl ?_
        cases hf
        exact hG.2 2 _ [0, 1] _ _ _ rfl hk
      · rw [if_neg hc8] at hf
        cases hf
        cases hk
        exact And.intro (fun z_ => absurd z_ (by decide)) (And.intro rfl rfl)
  unfold f_53 at hf
  refine hG.1 0 0 kb_53_0 _ _ _ rfl ?_
  obtain ⟨e10, he_e10, hf⟩ := Option.bind_eq_some_iff.mp hf
  refine hl_2 _ _ _ _ he_e10 ?_
  cases e10 with
  | inl q12 =>
    exact Option.some.inj hf
  | inr x11 =>
    try dsimp only at hf
    refine hG.1 6 64 kb_53_64 _ _ _ rfl ?_
    cases hf
    exact And.intro (fun z_ => absurd z_ (by decide)) (And.intro rfl rfl)
def f_54_19s (N : Nat) (h : pb_HP) (v0 : Nat) (v1 : Int32) (s : Int32 × Int32) : Option ((Int32 × Int32) ⊕ (Int32)) :=
  if pb_is h v0 2 then (if (pb_I h v0 1) ≤ s.2 then (some (.inr s.1)) else ((f_52 h v0 v1 s.2).bind fun r3 => (some (.inl ((s.1 + r3, s.2 + 1)))))) else none
/-- Duels.scoreOf -/
def f_54 (N : Nat) (h : pb_HP) (v0 : Nat) (v1 : Int32) : Option (Int32) :=
  if v1 < 0 then (some ((-2))) else (if pb_is h v0 2 then (if v1 < (pb_I h v0 1) then ((pb_wl (f_54_19s N h v0 v1) N ((0, 0))).bind fun e5 => (some e5)) else (some ((-2)))) else none)
set_option maxRecDepth 4000 in
theorem l_54 {xs : List Int32} {d : Nat} {N : Nat} {h : pb_HP} {v0 : Nat} {v1 : Int32} {r : Int32} (hf : f_54 N h v0 v1 = some r) : pb_AR xs (d + 2) 54 h [.ref v0, .int v1] (some (.int r)) h := by
  intro G hG
  have hc_ : pb_CODE 54 = kc_54 := rfl
  rw [hc_] at hG
  have hl_19 : ∀ (v0 : Nat) (v1 : Int32) (n_ : Nat) (s : Int32 × Int32) (e : Int32), pb_wl (f_54_19s N h v0 v1) n_ s = some e → G 42 [(2, .int e)] [] h → G 19 [(0, .ref v0), (1, .int v1), (2, .int s.1), (3, .int s.2)] [] h := by
    intro v0 v1
    refine pb_wl_ind (I := fun (s : Int32 × Int32) => G 19 [(0, .ref v0), (1, .int v1), (2, .int s.1), (3, .int s.2)] [] h) (K := fun (e : Int32) => G 42 [(2, .int e)] [] h) (fun s x hf hk => ?_)
    unfold f_54_19s at hf
    refine hG.1 3 19 kb_54_19 _ _ _ rfl ?_
    obtain ⟨hg2, hf⟩ := pb_gd hf
    refine And.intro hg2 (?_)
    refine And.intro (fun (hc4 : (pb_I h v0 1) ≤ s.2) => ?_) (fun (hc4 : ¬ ((pb_I h v0 1) ≤ s.2)) => ?_)
    · rw [if_pos hc4] at hf
      cases hf
      exact hG.2 42 _ [2] _ _ _ rfl hk
    · rw [if_neg hc4] at hf
      obtain ⟨r3, cr3, hf⟩ := Option.bind_eq_some_iff.mp hf
      refine And.intro hg2 (And.intro (Nat.le_of_ble_eq_true rfl) (And.intro (Nat.le_of_ble_eq_true rfl) (Exists.intro (some (.int r3)) (Exists.intro _ (And.intro (l_52 cr3) (?_))))))
      cases hf
      exact hk
  unfold f_54 at hf
  refine hG.1 0 0 kb_54_0 _ _ _ rfl ?_
  refine And.intro (fun (hc7 : v1 < 0) => ?_) (fun (hc7 : ¬ (v1 < 0)) => ?_)
  · rw [if_pos hc7] at hf
    refine hG.1 1 12 kb_54_12 _ _ _ rfl ?_
    cases hf
    exact And.intro (fun z_ => absurd z_ (by decide)) (And.intro rfl rfl)
  · rw [if_neg hc7] at hf
    obtain ⟨hg1, hf⟩ := pb_gd hf
    refine And.intro hg1 (?_)
    refine And.intro (fun (hc6 : v1 < (pb_I h v0 1)) => ?_) (fun (hc6 : ¬ (v1 < (pb_I h v0 1))) => ?_)
    · rw [if_pos hc6] at hf
      refine hG.1 2 15 kb_54_15 _ _ _ rfl ?_
      obtain ⟨e5, he_e5, hf⟩ := Option.bind_eq_some_iff.mp hf
      refine hl_19 _ _ _ _ _ he_e5 ?_
      refine hG.1 4 42 kb_54_42 _ _ _ rfl ?_
      cases hf
      exact And.intro (fun z_ => absurd z_ (by decide)) (And.intro rfl rfl)
    · rw [if_neg hc6] at hf
      refine hG.1 1 12 kb_54_12 _ _ _ rfl ?_
      cases hf
      exact And.intro (fun z_ => absurd z_ (by decide)) (And.intro rfl rfl)
def f_56_9s (N : Nat) (h : pb_HP) (v0 : Nat) (s : Int32 × Int32) : Option ((Int32 × Int32) ⊕ (Int32)) :=
  if pb_is h v0 2 then (if (pb_I h v0 1) ≤ s.2 then (some (.inr s.1)) else ((pb_R h v0 0).bind fun q5 => (if pb_ar h q5 12 s.2 then ((f_52 h v0 (pb_I h q5 s.2.toNatClampNeg) s.1).bind fun r7 => ((f_52 h v0 s.1 (pb_I h q5 s.2.toNatClampNeg)).bind fun r8 => (if r7 ≤ r8 then (some (.inl ((s.1, s.2 + 1)))) else (some (.inl ((pb_I h q5 s.2.toNatClampNeg, s.2 + 1))))))) else none))) else none
/-- Duels.staysOfRow -/
def f_56 (N : Nat) (h : pb_HP) (v0 : Nat) : Option (Int32) :=
  if pb_is h v0 2 then ((pb_R h v0 0).bind fun q2 => (if pb_ar h q2 12 0 then ((pb_wl (f_56_9s N h v0) N ((pb_I h q2 (0 : Int32).toNatClampNeg, 1))).bind fun e11 => (some e11)) else none)) else none
set_option maxRecDepth 4000 in
theorem l_56 {xs : List Int32} {d : Nat} {N : Nat} {h : pb_HP} {v0 : Nat} {r : Int32} (hf : f_56 N h v0 = some r) : pb_AR xs (d + 2) 56 h [.ref v0] (some (.int r)) h := by
  intro G hG
  have hc_ : pb_CODE 56 = kc_56 := rfl
  rw [hc_] at hG
  have hl_9 : ∀ (v0 : Nat) (n_ : Nat) (s : Int32 × Int32) (e : Int32), pb_wl (f_56_9s N h v0) n_ s = some e → G 55 [(1, .int e)] [] h → G 9 [(0, .ref v0), (1, .int s.1), (2, .int s.2)] [] h := by
    intro v0
    refine pb_wl_ind (I := fun (s : Int32 × Int32) => G 9 [(0, .ref v0), (1, .int s.1), (2, .int s.2)] [] h) (K := fun (e : Int32) => G 55 [(1, .int e)] [] h) (fun s x hf hk => ?_)
    unfold f_56_9s at hf
    refine hG.1 1 9 kb_56_9 _ _ _ rfl ?_
    obtain ⟨hg4, hf⟩ := pb_gd hf
    refine And.intro hg4 (?_)
    refine And.intro (fun (hc10 : (pb_I h v0 1) ≤ s.2) => ?_) (fun (hc10 : ¬ ((pb_I h v0 1) ≤ s.2)) => ?_)
    · rw [if_pos hc10] at hf
      cases hf
      exact hG.2 55 _ [1] _ _ _ rfl hk
    · rw [if_neg hc10] at hf
      obtain ⟨q5, eq5, hf⟩ := Option.bind_eq_some_iff.mp hf
      obtain ⟨hg6, hf⟩ := pb_gd hf
      refine And.intro hg4 (Exists.intro q5 (And.intro eq5 (And.intro hg6 (?_))))
      obtain ⟨r7, cr7, hf⟩ := Option.bind_eq_some_iff.mp hf
      refine And.intro hg4 (And.intro (Nat.le_of_ble_eq_true rfl) (And.intro (Nat.le_of_ble_eq_true rfl) (Exists.intro (some (.int r7)) (Exists.intro _ (And.intro (l_52 cr7) (?_))))))
      refine And.intro hg4 (Exists.intro q5 (And.intro eq5 (And.intro hg6 (?_))))
      obtain ⟨r8, cr8, hf⟩ := Option.bind_eq_some_iff.mp hf
      refine And.intro hg4 (And.intro (Nat.le_of_ble_eq_true rfl) (And.intro (Nat.le_of_ble_eq_true rfl) (Exists.intro (some (.int r8)) (Exists.intro _ (And.intro (l_52 cr8) (?_))))))
      refine And.intro (fun (hc9 : r7 ≤ r8) => ?_) (fun (hc9 : ¬ (r7 ≤ r8)) => ?_)
      · rw [if_pos hc9] at hf
        refine hG.1 2 49 kb_56_49 _ _ _ rfl ?_
        cases hf
        exact hk
      · rw [if_neg hc9] at hf
        refine And.intro hg4 (Exists.intro q5 (And.intro eq5 (And.intro hg6 (?_))))
        refine hG.1 2 49 kb_56_49 _ _ _ rfl ?_
        cases hf
        exact hk
  unfold f_56 at hf
  refine hG.1 0 0 kb_56_0 _ _ _ rfl ?_
  obtain ⟨hg1, hf⟩ := pb_gd hf
  obtain ⟨q2, eq2, hf⟩ := Option.bind_eq_some_iff.mp hf
  obtain ⟨hg3, hf⟩ := pb_gd hf
  refine And.intro hg1 (Exists.intro q2 (And.intro eq2 (And.intro hg3 (?_))))
  obtain ⟨e11, he_e11, hf⟩ := Option.bind_eq_some_iff.mp hf
  refine hl_9 _ _ _ _ he_e11 ?_
  refine hG.1 3 55 kb_56_55 _ _ _ rfl ?_
  cases hf
  exact And.intro (fun z_ => absurd z_ (by decide)) (And.intro rfl rfl)
def f_57_7s (N : Nat) (h : pb_HP) (v0 : Nat) (s : Int32) : Option ((Int32) ⊕ (Int32)) :=
  if s < 0 then (some (.inr s)) else (if pb_is h v0 2 then ((pb_R h v0 0).bind fun q3 => (if pb_ar h q3 12 s then (if pb_ar h q3 12 (s + 1) then (if (pb_I h q3 s.toNatClampNeg) ≤ (pb_I h q3 (s + 1).toNatClampNeg) then (some (.inr s)) else (some (.inl (s + (-1))))) else none) else none)) else none)
def f_57_47s (N : Nat) (h : pb_HP) (v0 : Nat) (v1 : Int32) (s : Int32) : Option ((Int32) ⊕ (Int32)) :=
  if s ≤ v1 then (some (.inr s)) else (if pb_is h v0 2 then ((pb_R h v0 0).bind fun q11 => (if pb_ar h q11 12 s then (if pb_ar h q11 12 v1 then (if (pb_I h q11 v1.toNatClampNeg) ≤ (pb_I h q11 s.toNatClampNeg) then (some (.inr s)) else (some (.inl (s + (-1))))) else none) else none)) else none)
def f_57_91s (N : Nat) (v0 : Nat) (s : Int32 × Int32 × pb_HP) : Option ((Int32 × Int32 × pb_HP) ⊕ (pb_HP)) :=
  if s.2.1 ≤ s.1 then (some (.inr s.2.2)) else (if pb_is s.2.2 v0 2 then ((f_58 s.2.2 v0 s.1 s.2.1).bind fun h23 => (some (.inl ((s.1 + 1, s.2.1 + (-1), h23))))) else none)
def f_57_73 (N : Nat) (h : pb_HP) (v0 : Nat) (v1 : Int32) (v2 : Int32) : Option (Int32 × pb_HP) :=
  if pb_is h v0 2 then ((f_58 h v0 v1 v2).bind fun h19 => (if pb_is h19 v0 2 then ((pb_wl (f_57_91s N v0) N ((v1 + 1, (pb_I h19 v0 1) - 1, h19))).bind fun e25 => (some ((1, e25)))) else none)) else none
def f_57_34 (N : Nat) (h : pb_HP) (v0 : Nat) (v1 : Int32) : Option (Int32 × pb_HP) :=
  if 0 ≤ v1 then (if pb_is h v0 2 then ((pb_wl (f_57_47s N h v0 v1) N ((pb_I h v0 1) - 1)).bind fun e16 => (f_57_73 N h v0 v1 e16)) else none) else (some ((0, h)))
/-- Duels.nextRow -/
def f_57 (N : Nat) (h : pb_HP) (v0 : Nat) : Option (Int32 × pb_HP) :=
  if pb_is h v0 2 then ((pb_wl (f_57_7s N h v0) N ((pb_I h v0 1) - 2)).bind fun e8 => (f_57_34 N h v0 e8)) else none
set_option maxRecDepth 4000 in
theorem l_57 {xs : List Int32} {d : Nat} {N : Nat} {h : pb_HP} {v0 : Nat} {r : Int32} {hE : pb_HP} (hf : f_57 N h v0 = some ((r, hE))) : pb_AR xs (d + 2) 57 h [.ref v0] (some (.int r)) hE := by
  intro G hG
  have hc_ : pb_CODE 57 = kc_57 := rfl
  rw [hc_] at hG
  have hl_7 : ∀ (h : pb_HP) (v0 : Nat) (n_ : Nat) (s : Int32) (e : Int32), pb_wl (f_57_7s N h v0) n_ s = some e → G 34 [(0, .ref v0), (1, .int e)] [] h → G 7 [(0, .ref v0), (1, .int s)] [] h := by
    intro h v0
    refine pb_wl_ind (I := fun (s : Int32) => G 7 [(0, .ref v0), (1, .int s)] [] h) (K := fun (e : Int32) => G 34 [(0, .ref v0), (1, .int e)] [] h) (fun s x hf hk => ?_)
    unfold f_57_7s at hf
    refine hG.1 1 7 kb_57_7 _ _ _ rfl ?_
    refine And.intro (fun (hc7 : s < 0) => ?_) (fun (hc7 : ¬ (s < 0)) => ?_)
    · rw [if_pos hc7] at hf
      cases hf
      exact hk
    · rw [if_neg hc7] at hf
      obtain ⟨hg2, hf⟩ := pb_gd hf
      obtain ⟨q3, eq3, hf⟩ := Option.bind_eq_some_iff.mp hf
      obtain ⟨hg4, hf⟩ := pb_gd hf
      obtain ⟨hg5, hf⟩ := pb_gd hf
      refine And.intro hg2 (Exists.intro q3 (And.intro eq3 (And.intro hg4 (And.intro hg2 (Exists.intro q3 (And.intro eq3 (And.intro hg5 (?_))))))))
      refine And.intro (fun (hc6 : (pb_I h q3 s.toNatClampNeg) ≤ (pb_I h q3 (s + 1).toNatClampNeg)) => ?_) (fun (hc6 : ¬ ((pb_I h q3 s.toNatClampNeg) ≤ (pb_I h q3 (s + 1).toNatClampNeg))) => ?_)
      · rw [if_pos hc6] at hf
        cases hf
        exact hk
      · rw [if_neg hc6] at hf
        cases hf
        exact hk
  have hl_47 : ∀ (h : pb_HP) (v0 : Nat) (v1 : Int32) (n_ : Nat) (s : Int32) (e : Int32), pb_wl (f_57_47s N h v0 v1) n_ s = some e → G 73 [(0, .ref v0), (1, .int v1), (2, .int e)] [] h → G 47 [(0, .ref v0), (1, .int v1), (2, .int s)] [] h := by
    intro h v0 v1
    refine pb_wl_ind (I := fun (s : Int32) => G 47 [(0, .ref v0), (1, .int v1), (2, .int s)] [] h) (K := fun (e : Int32) => G 73 [(0, .ref v0), (1, .int v1), (2, .int e)] [] h) (fun s x hf hk => ?_)
    unfold f_57_47s at hf
    refine hG.1 4 47 kb_57_47 _ _ _ rfl ?_
    refine And.intro (fun (hc15 : s ≤ v1) => ?_) (fun (hc15 : ¬ (s ≤ v1)) => ?_)
    · rw [if_pos hc15] at hf
      cases hf
      exact hk
    · rw [if_neg hc15] at hf
      obtain ⟨hg10, hf⟩ := pb_gd hf
      obtain ⟨q11, eq11, hf⟩ := Option.bind_eq_some_iff.mp hf
      obtain ⟨hg12, hf⟩ := pb_gd hf
      obtain ⟨hg13, hf⟩ := pb_gd hf
      refine And.intro hg10 (Exists.intro q11 (And.intro eq11 (And.intro hg12 (And.intro hg10 (Exists.intro q11 (And.intro eq11 (And.intro hg13 (?_))))))))
      refine And.intro (fun (hc14 : (pb_I h q11 v1.toNatClampNeg) ≤ (pb_I h q11 s.toNatClampNeg)) => ?_) (fun (hc14 : ¬ ((pb_I h q11 v1.toNatClampNeg) ≤ (pb_I h q11 s.toNatClampNeg))) => ?_)
      · rw [if_pos hc14] at hf
        cases hf
        exact hk
      · rw [if_neg hc14] at hf
        cases hf
        exact hk
  have hl_91 : ∀ (v0 : Nat) (n_ : Nat) (s : Int32 × Int32 × pb_HP) (e : pb_HP), pb_wl (f_57_91s N v0) n_ s = some e → G 113 [] [] e → G 91 [(0, .ref v0), (3, .int s.1), (4, .int s.2.1)] [] s.2.2 := by
    intro v0
    refine pb_wl_ind (I := fun (s : Int32 × Int32 × pb_HP) => G 91 [(0, .ref v0), (3, .int s.1), (4, .int s.2.1)] [] s.2.2) (K := fun (e : pb_HP) => G 113 [] [] e) (fun s x hf hk => ?_)
    unfold f_57_91s at hf
    refine hG.1 6 91 kb_57_91 _ _ _ rfl ?_
    refine And.intro (fun (hc24 : s.2.1 ≤ s.1) => ?_) (fun (hc24 : ¬ (s.2.1 ≤ s.1)) => ?_)
    · rw [if_pos hc24] at hf
      cases hf
      exact hG.2 113 _ [] _ _ _ rfl hk
    · rw [if_neg hc24] at hf
      obtain ⟨hg21, hf⟩ := pb_gd hf
      obtain ⟨h23, cr22, hf⟩ := Option.bind_eq_some_iff.mp hf
      refine And.intro hg21 (And.intro (Nat.le_of_ble_eq_true rfl) (And.intro (Nat.le_of_ble_eq_true rfl) (Exists.intro none (Exists.intro _ (And.intro (l_58 cr22) (?_))))))
      cases hf
      exact hk
  have hj_73 : ∀ (h : pb_HP) (v0 : Nat) (v1 : Int32) (v2 : Int32), f_57_73 N h v0 v1 v2 = some ((r, hE)) → G 73 [(0, .ref v0), (1, .int v1), (2, .int v2)] [] h := by
    intro h v0 v1 v2 hf
    unfold f_57_73 at hf
    refine hG.1 5 73 kb_57_73 _ _ _ rfl ?_
    obtain ⟨hg17, hf⟩ := pb_gd hf
    obtain ⟨h19, cr18, hf⟩ := Option.bind_eq_some_iff.mp hf
    refine And.intro hg17 (And.intro (Nat.le_of_ble_eq_true rfl) (And.intro (Nat.le_of_ble_eq_true rfl) (Exists.intro none (Exists.intro _ (And.intro (l_58 cr18) (?_))))))
    obtain ⟨hg20, hf⟩ := pb_gd hf
    refine And.intro hg20 (?_)
    obtain ⟨e25, he_e25, hf⟩ := Option.bind_eq_some_iff.mp hf
    refine hG.2 91 _ [0, 3, 4] _ _ _ rfl ?_
    refine hl_91 _ _ _ _ he_e25 ?_
    refine hG.1 7 113 kb_57_113 _ _ _ rfl ?_
    cases hf
    exact And.intro (fun _ => Or.inr rfl) (And.intro rfl rfl)
  have hj_34 : ∀ (h : pb_HP) (v0 : Nat) (v1 : Int32), f_57_34 N h v0 v1 = some ((r, hE)) → G 34 [(0, .ref v0), (1, .int v1)] [] h := by
    intro h v0 v1 hf
    unfold f_57_34 at hf
    refine hG.1 2 34 kb_57_34 _ _ _ rfl ?_
    refine And.intro (fun (hc26 : 0 ≤ v1) => ?_) (fun (hc26 : ¬ (0 ≤ v1)) => ?_)
    · rw [if_pos hc26] at hf
      refine hG.1 3 40 kb_57_40 _ _ _ rfl ?_
      obtain ⟨hg9, hf⟩ := pb_gd hf
      refine And.intro hg9 (?_)
      obtain ⟨e16, he_e16, hf⟩ := Option.bind_eq_some_iff.mp hf
      refine hl_47 _ _ _ _ _ _ he_e16 ?_
      exact hj_73 _ _ _ _ hf
    · rw [if_neg hc26] at hf
      cases hf
      exact And.intro (fun _ => Or.inl rfl) (And.intro rfl rfl)
  unfold f_57 at hf
  refine hG.1 0 0 kb_57_0 _ _ _ rfl ?_
  obtain ⟨hg1, hf⟩ := pb_gd hf
  refine And.intro hg1 (?_)
  obtain ⟨e8, he_e8, hf⟩ := Option.bind_eq_some_iff.mp hf
  refine hl_7 _ _ _ _ _ he_e8 ?_
  exact hj_34 _ _ _ hf
/-- Likings.sumOf -/
def f_62 (h : pb_HP) (v0 : Nat) (v1 : Int32) (v2 : Int32) : Option (Int32) :=
  if pb_is h v0 3 then ((pb_R h v0 2).bind fun q2 => (if pb_ar h q2 12 v1 then ((f_305 ((pb_I h q2 v1.toNatClampNeg) &&& (v2 ||| (v2 <<< (6 &&& 31))))).bind fun r4 => (some r4)) else none)) else none
set_option maxRecDepth 4000 in
theorem l_62 {xs : List Int32} {d : Nat} {h : pb_HP} {v0 : Nat} {v1 : Int32} {v2 : Int32} {r : Int32} (hf : f_62 h v0 v1 v2 = some r) : pb_AR xs (d + 2) 62 h [.ref v0, .int v1, .int v2] (some (.int r)) h := by
  intro G hG
  have hc_ : pb_CODE 62 = kc_62 := rfl
  rw [hc_] at hG
  unfold f_62 at hf
  refine hG.1 0 0 kb_62_0 _ _ _ rfl ?_
  obtain ⟨hg1, hf⟩ := pb_gd hf
  obtain ⟨q2, eq2, hf⟩ := Option.bind_eq_some_iff.mp hf
  obtain ⟨hg3, hf⟩ := pb_gd hf
  refine And.intro hg1 (Exists.intro q2 (And.intro eq2 (And.intro hg3 (?_))))
  obtain ⟨r4, cr4, hf⟩ := Option.bind_eq_some_iff.mp hf
  refine And.intro (Nat.le_of_ble_eq_true rfl) (And.intro (Nat.le_of_ble_eq_true rfl) (And.intro (Nat.le_of_ble_eq_true rfl) (Exists.intro (some (.int r4)) (Exists.intro _ (And.intro (l_305 cr4) (?_))))))
  cases hf
  exact And.intro (fun z_ => absurd z_ (by decide)) (And.intro rfl rfl)
/-- Lines.add -/
def f_72 (h : pb_HP) (v0 : Nat) (v1 : Int32) (v2 : Int32) (v3 : Int32) (v4 : Int32) : Option (pb_HP) :=
  if pb_is h v0 4 then ((f_71 h v0).bind fun r2 => (if ¬ r2 = 0 then (some h) else ((pb_R h v0 1).bind fun q3 => (if pb_ar h q3 12 (pb_I h v0 0) then ((pb_R h v0 2).bind fun q5 => (if pb_ar h q5 12 (pb_I (pb_pI h q3 (pb_I h v0 0).toNatClampNeg v1) v0 0) then ((pb_R h v0 3).bind fun q7 => (if pb_ar h q7 12 (pb_I (pb_pI (pb_pI h q3 (pb_I h v0 0).toNatClampNeg v1) q5 (pb_I (pb_pI h q3 (pb_I h v0 0).toNatClampNeg v1) v0 0).toNatClampNeg v2) v0 0) then (pb_hb (pb_pI (pb_pI (pb_pI h q3 (pb_I h v0 0).toNatClampNeg v1) q5 (pb_I (pb_pI h q3 (pb_I h v0 0).toNatClampNeg v1) v0 0).toNatClampNeg v2) q7 (pb_I (pb_pI (pb_pI h q3 (pb_I h v0 0).toNatClampNeg v1) q5 (pb_I (pb_pI h q3 (pb_I h v0 0).toNatClampNeg v1) v0 0).toNatClampNeg v2) v0 0).toNatClampNeg v3) fun h9 => ((pb_R h v0 4).bind fun q17 => (if pb_ar h q17 12 (pb_I h9 v0 0) then (some (pb_pI (pb_pI h9 q17 (pb_I h9 v0 0).toNatClampNeg v4) v0 0 ((pb_I (pb_pI h9 q17 (pb_I h9 v0 0).toNatClampNeg v4) v0 0) + 1))) else none))) else none)) else none)) else none)))) else none
set_option maxRecDepth 4000 in
theorem l_72 {xs : List Int32} {d : Nat} {h : pb_HP} {v0 : Nat} {v1 : Int32} {v2 : Int32} {v3 : Int32} {v4 : Int32} {hE : pb_HP} (hf : f_72 h v0 v1 v2 v3 v4 = some hE) : pb_AR xs (d + 2) 72 h [.ref v0, .int v1, .int v2, .int v3, .int v4] none hE := by
  intro G hG
  have hc_ : pb_CODE 72 = kc_72 := rfl
  rw [hc_] at hG
  unfold f_72 at hf
  refine hG.1 0 0 kb_72_0 _ _ _ rfl ?_
  obtain ⟨hg1, hf⟩ := pb_gd hf
  obtain ⟨r2, cr2, hf⟩ := Option.bind_eq_some_iff.mp hf
  refine And.intro hg1 (And.intro (Nat.le_of_ble_eq_true rfl) (And.intro (Nat.le_of_ble_eq_true rfl) (Exists.intro (some (.int r2)) (Exists.intro _ (And.intro (l_71 cr2) (?_))))))
  refine And.intro (fun (hc21 : ¬ r2 = 0) => ?_) (fun (hc21 : ¬ (¬ r2 = 0)) => ?_)
  · rw [if_pos hc21] at hf
    refine hG.1 1 58 kb_72_58 _ _ _ rfl ?_
    cases hf
    exact And.intro rfl rfl
  · rw [if_neg hc21] at hf
    obtain ⟨q3, eq3, hf⟩ := Option.bind_eq_some_iff.mp hf
    obtain ⟨hg4, hf⟩ := pb_gd hf
    obtain ⟨q5, eq5, hf⟩ := Option.bind_eq_some_iff.mp hf
    obtain ⟨hg6, hf⟩ := pb_gd hf
    obtain ⟨q7, eq7, hf⟩ := Option.bind_eq_some_iff.mp hf
    obtain ⟨hg8, hf⟩ := pb_gd hf
    refine And.intro hg1 (Exists.intro q3 (And.intro eq3 (And.intro hg1 (And.intro hg4 (And.intro hg1 (Exists.intro q5 (And.intro eq5 (And.intro hg1 (And.intro hg6 (And.intro hg1 (Exists.intro q7 (And.intro eq7 (And.intro hg1 (And.intro hg8 (?_)))))))))))))))
    refine pb_hset (E := pb_pI (pb_pI (pb_pI h q3 (pb_I h v0 0).toNatClampNeg v1) q5 (pb_I (pb_pI h q3 (pb_I h v0 0).toNatClampNeg v1) v0 0).toNatClampNeg v2) q7 (pb_I (pb_pI (pb_pI h q3 (pb_I h v0 0).toNatClampNeg v1) q5 (pb_I (pb_pI h q3 (pb_I h v0 0).toNatClampNeg v1) v0 0).toNatClampNeg v2) v0 0).toNatClampNeg v3) rfl (fun h9 eh9 => ?_)
    have hf := pb_hbd hf eh9
    have hg10 : pb_is h9 v0 4 := pb_isx eh9 hg1
    have hg11 : pb_ar h9 q3 12 (pb_I h v0 0) := pb_arx eh9 hg4
    have hg12 : pb_ar h9 q5 12 (pb_I (pb_pI h q3 (pb_I h v0 0).toNatClampNeg v1) v0 0) := pb_arx eh9 hg6
    have hg13 : pb_ar h9 q7 12 (pb_I (pb_pI (pb_pI h q3 (pb_I h v0 0).toNatClampNeg v1) q5 (pb_I (pb_pI h q3 (pb_I h v0 0).toNatClampNeg v1) v0 0).toNatClampNeg v2) v0 0) := pb_arx eh9 hg8
    have eq14 : pb_R h9 v0 1 = some q3 := pb_Rx eh9 eq3
    have eq15 : pb_R h9 v0 2 = some q5 := pb_Rx eh9 eq5
    have eq16 : pb_R h9 v0 3 = some q7 := pb_Rx eh9 eq7
    obtain ⟨q17, eq17, hf⟩ := Option.bind_eq_some_iff.mp hf
    have eq18 : pb_R h9 v0 4 = some q17 := pb_Rx eh9 eq17
    obtain ⟨hg19, hf⟩ := pb_gd hf
    have hg20 : pb_ar h9 q17 12 (pb_I h9 v0 0) := pb_arx eh9 hg19
    refine And.intro hg10 (Exists.intro q17 (And.intro eq18 (And.intro hg10 (And.intro hg20 (And.intro hg10 (And.intro hg10 (?_)))))))
    refine hG.1 1 58 kb_72_58 _ _ _ rfl ?_
    cases hf
    exact And.intro rfl rfl
def f_79_4s (N : Nat) (h : pb_HP) (v0 : Nat) (v1 : Int32) (s : Int32 × Int32) : Option ((Int32 × Int32) ⊕ (Int32)) :=
  if pb_is h v0 5 then (if (pb_I h v0 0) < s.2 then (some (.inr s.1)) else ((f_78 v0 s.2 (pb_I h v0 0)).bind fun r2 => (if r2 = 0 then (some (.inl ((s.1, s.2 + 1)))) else ((f_77 N h v0 s.2).bind fun r3 => (if ¬ r3 = v1 then (some (.inl ((s.1, s.2 + 1)))) else (if s.1 = ((-1)) then (some (.inl ((s.2, s.2 + 1)))) else ((f_305 s.2).bind fun r4 => ((f_305 s.1).bind fun r5 => (if r4 ≤ r5 then (some (.inl ((s.1, s.2 + 1)))) else (some (.inl ((s.2, s.2 + 1))))))))))))) else none
/-- Poll.greatestBench -/
def f_79 (N : Nat) (h : pb_HP) (v0 : Nat) (v1 : Int32) : Option (Int32) :=
  (pb_wl (f_79_4s N h v0 v1) N (((-1), 1))).bind fun e11 => (some e11)
set_option maxRecDepth 4000 in
theorem l_79 {xs : List Int32} {d : Nat} {N : Nat} {h : pb_HP} {v0 : Nat} {v1 : Int32} {r : Int32} (hf : f_79 N h v0 v1 = some r) : pb_AR xs (d + 2) 79 h [.ref v0, .int v1] (some (.int r)) h := by
  intro G hG
  have hc_ : pb_CODE 79 = kc_79 := rfl
  rw [hc_] at hG
  have hl_4 : ∀ (v0 : Nat) (v1 : Int32) (n_ : Nat) (s : Int32 × Int32) (e : Int32), pb_wl (f_79_4s N h v0 v1) n_ s = some e → G 57 [(2, .int e)] [] h → G 4 [(0, .ref v0), (1, .int v1), (2, .int s.1), (3, .int s.2)] [] h := by
    intro v0 v1
    refine pb_wl_ind (I := fun (s : Int32 × Int32) => G 4 [(0, .ref v0), (1, .int v1), (2, .int s.1), (3, .int s.2)] [] h) (K := fun (e : Int32) => G 57 [(2, .int e)] [] h) (fun s x hf hk => ?_)
    unfold f_79_4s at hf
    refine hG.1 1 4 kb_79_4 _ _ _ rfl ?_
    obtain ⟨hg1, hf⟩ := pb_gd hf
    refine And.intro hg1 (?_)
    refine And.intro (fun (hc10 : (pb_I h v0 0) < s.2) => ?_) (fun (hc10 : ¬ ((pb_I h v0 0) < s.2)) => ?_)
    · rw [if_pos hc10] at hf
      cases hf
      exact hG.2 57 _ [2] _ _ _ rfl hk
    · rw [if_neg hc10] at hf
      refine And.intro hg1 (?_)
      obtain ⟨r2, cr2, hf⟩ := Option.bind_eq_some_iff.mp hf
      refine And.intro hg1 (And.intro (Nat.le_of_ble_eq_true rfl) (And.intro (Nat.le_of_ble_eq_true rfl) (Exists.intro (some (.int r2)) (Exists.intro _ (And.intro (l_78 cr2) (?_))))))
      refine And.intro (fun (hc9 : r2 = 0) => ?_) (fun (hc9 : ¬ (r2 = 0)) => ?_)
      · rw [if_pos hc9] at hf
        refine hG.1 3 51 kb_79_51 _ _ _ rfl ?_
        cases hf
        exact hk
      · rw [if_neg hc9] at hf
        obtain ⟨r3, cr3, hf⟩ := Option.bind_eq_some_iff.mp hf
        refine And.intro hg1 (And.intro (Nat.le_of_ble_eq_true rfl) (And.intro (Nat.le_of_ble_eq_true rfl) (Exists.intro (some (.int r3)) (Exists.intro _ (And.intro (l_77 cr3) (?_))))))
        refine And.intro (fun (hc8 : ¬ r3 = v1) => ?_) (fun (hc8 : ¬ (¬ r3 = v1)) => ?_)
        · rw [if_pos hc8] at hf
          refine hG.1 3 51 kb_79_51 _ _ _ rfl ?_
          cases hf
          exact hk
        · rw [if_neg hc8] at hf
          refine And.intro (fun (hc7 : s.1 = ((-1))) => ?_) (fun (hc7 : ¬ (s.1 = ((-1)))) => ?_)
          · rw [if_pos hc7] at hf
            refine hG.1 2 49 kb_79_49 _ _ _ rfl ?_
            refine hG.1 3 51 kb_79_51 _ _ _ rfl ?_
            cases hf
            exact hk
          · rw [if_neg hc7] at hf
            obtain ⟨r4, cr4, hf⟩ := Option.bind_eq_some_iff.mp hf
            refine And.intro (Nat.le_of_ble_eq_true rfl) (And.intro (Nat.le_of_ble_eq_true rfl) (And.intro (Nat.le_of_ble_eq_true rfl) (Exists.intro (some (.int r4)) (Exists.intro _ (And.intro (l_305 cr4) (?_))))))
            obtain ⟨r5, cr5, hf⟩ := Option.bind_eq_some_iff.mp hf
            refine And.intro (Nat.le_of_ble_eq_true rfl) (And.intro (Nat.le_of_ble_eq_true rfl) (And.intro (Nat.le_of_ble_eq_true rfl) (Exists.intro (some (.int r5)) (Exists.intro _ (And.intro (l_305 cr5) (?_))))))
            refine And.intro (fun (hc6 : r4 ≤ r5) => ?_) (fun (hc6 : ¬ (r4 ≤ r5)) => ?_)
            · rw [if_pos hc6] at hf
              refine hG.1 3 51 kb_79_51 _ _ _ rfl ?_
              cases hf
              exact hk
            · rw [if_neg hc6] at hf
              refine hG.1 2 49 kb_79_49 _ _ _ rfl ?_
              refine hG.1 3 51 kb_79_51 _ _ _ rfl ?_
              cases hf
              exact hk
  unfold f_79 at hf
  refine hG.1 0 0 kb_79_0 _ _ _ rfl ?_
  obtain ⟨e11, he_e11, hf⟩ := Option.bind_eq_some_iff.mp hf
  refine hl_4 _ _ _ _ _ he_e11 ?_
  refine hG.1 4 57 kb_79_57 _ _ _ rfl ?_
  cases hf
  exact And.intro (fun z_ => absurd z_ (by decide)) (And.intro rfl rfl)
def f_80_4s (N : Nat) (h : pb_HP) (v0 : Nat) (v1 : Int32) (s : Int32 × Int32) : Option ((Int32 × Int32) ⊕ (Int32)) :=
  if pb_is h v0 5 then (if (pb_I h v0 0) < s.2 then (some (.inr s.1)) else ((f_78 v0 s.2 (pb_I h v0 0)).bind fun r2 => (if r2 = 0 then (some (.inl ((s.1, s.2 + 1)))) else ((f_77 N h v0 s.2).bind fun r3 => (if ¬ r3 = v1 then (some (.inl ((s.1, s.2 + 1)))) else (if s.1 = ((-1)) then (some (.inl ((s.2, s.2 + 1)))) else ((f_305 s.2).bind fun r4 => ((f_305 s.1).bind fun r5 => (if r5 ≤ r4 then (some (.inl ((s.1, s.2 + 1)))) else (some (.inl ((s.2, s.2 + 1))))))))))))) else none
/-- Poll.smallestBench -/
def f_80 (N : Nat) (h : pb_HP) (v0 : Nat) (v1 : Int32) : Option (Int32) :=
  (pb_wl (f_80_4s N h v0 v1) N (((-1), 1))).bind fun e11 => (some e11)
set_option maxRecDepth 4000 in
theorem l_80 {xs : List Int32} {d : Nat} {N : Nat} {h : pb_HP} {v0 : Nat} {v1 : Int32} {r : Int32} (hf : f_80 N h v0 v1 = some r) : pb_AR xs (d + 2) 80 h [.ref v0, .int v1] (some (.int r)) h := by
  intro G hG
  have hc_ : pb_CODE 80 = kc_80 := rfl
  rw [hc_] at hG
  have hl_4 : ∀ (v0 : Nat) (v1 : Int32) (n_ : Nat) (s : Int32 × Int32) (e : Int32), pb_wl (f_80_4s N h v0 v1) n_ s = some e → G 57 [(2, .int e)] [] h → G 4 [(0, .ref v0), (1, .int v1), (2, .int s.1), (3, .int s.2)] [] h := by
    intro v0 v1
    refine pb_wl_ind (I := fun (s : Int32 × Int32) => G 4 [(0, .ref v0), (1, .int v1), (2, .int s.1), (3, .int s.2)] [] h) (K := fun (e : Int32) => G 57 [(2, .int e)] [] h) (fun s x hf hk => ?_)
    unfold f_80_4s at hf
    refine hG.1 1 4 kb_80_4 _ _ _ rfl ?_
    obtain ⟨hg1, hf⟩ := pb_gd hf
    refine And.intro hg1 (?_)
    refine And.intro (fun (hc10 : (pb_I h v0 0) < s.2) => ?_) (fun (hc10 : ¬ ((pb_I h v0 0) < s.2)) => ?_)
    · rw [if_pos hc10] at hf
      cases hf
      exact hG.2 57 _ [2] _ _ _ rfl hk
    · rw [if_neg hc10] at hf
      refine And.intro hg1 (?_)
      obtain ⟨r2, cr2, hf⟩ := Option.bind_eq_some_iff.mp hf
      refine And.intro hg1 (And.intro (Nat.le_of_ble_eq_true rfl) (And.intro (Nat.le_of_ble_eq_true rfl) (Exists.intro (some (.int r2)) (Exists.intro _ (And.intro (l_78 cr2) (?_))))))
      refine And.intro (fun (hc9 : r2 = 0) => ?_) (fun (hc9 : ¬ (r2 = 0)) => ?_)
      · rw [if_pos hc9] at hf
        refine hG.1 3 51 kb_80_51 _ _ _ rfl ?_
        cases hf
        exact hk
      · rw [if_neg hc9] at hf
        obtain ⟨r3, cr3, hf⟩ := Option.bind_eq_some_iff.mp hf
        refine And.intro hg1 (And.intro (Nat.le_of_ble_eq_true rfl) (And.intro (Nat.le_of_ble_eq_true rfl) (Exists.intro (some (.int r3)) (Exists.intro _ (And.intro (l_77 cr3) (?_))))))
        refine And.intro (fun (hc8 : ¬ r3 = v1) => ?_) (fun (hc8 : ¬ (¬ r3 = v1)) => ?_)
        · rw [if_pos hc8] at hf
          refine hG.1 3 51 kb_80_51 _ _ _ rfl ?_
          cases hf
          exact hk
        · rw [if_neg hc8] at hf
          refine And.intro (fun (hc7 : s.1 = ((-1))) => ?_) (fun (hc7 : ¬ (s.1 = ((-1)))) => ?_)
          · rw [if_pos hc7] at hf
            refine hG.1 2 49 kb_80_49 _ _ _ rfl ?_
            refine hG.1 3 51 kb_80_51 _ _ _ rfl ?_
            cases hf
            exact hk
          · rw [if_neg hc7] at hf
            obtain ⟨r4, cr4, hf⟩ := Option.bind_eq_some_iff.mp hf
            refine And.intro (Nat.le_of_ble_eq_true rfl) (And.intro (Nat.le_of_ble_eq_true rfl) (And.intro (Nat.le_of_ble_eq_true rfl) (Exists.intro (some (.int r4)) (Exists.intro _ (And.intro (l_305 cr4) (?_))))))
            obtain ⟨r5, cr5, hf⟩ := Option.bind_eq_some_iff.mp hf
            refine And.intro (Nat.le_of_ble_eq_true rfl) (And.intro (Nat.le_of_ble_eq_true rfl) (And.intro (Nat.le_of_ble_eq_true rfl) (Exists.intro (some (.int r5)) (Exists.intro _ (And.intro (l_305 cr5) (?_))))))
            refine And.intro (fun (hc6 : r5 ≤ r4) => ?_) (fun (hc6 : ¬ (r5 ≤ r4)) => ?_)
            · rw [if_pos hc6] at hf
              refine hG.1 3 51 kb_80_51 _ _ _ rfl ?_
              cases hf
              exact hk
            · rw [if_neg hc6] at hf
              refine hG.1 2 49 kb_80_49 _ _ _ rfl ?_
              refine hG.1 3 51 kb_80_51 _ _ _ rfl ?_
              cases hf
              exact hk
  unfold f_80 at hf
  refine hG.1 0 0 kb_80_0 _ _ _ rfl ?_
  obtain ⟨e11, he_e11, hf⟩ := Option.bind_eq_some_iff.mp hf
  refine hl_4 _ _ _ _ _ he_e11 ?_
  refine hG.1 4 57 kb_80_57 _ _ _ rfl ?_
  cases hf
  exact And.intro (fun z_ => absurd z_ (by decide)) (And.intro rfl rfl)
def f_81_4s (N : Nat) (h : pb_HP) (v0 : Nat) (v1 : Int32) (s : Int32 × Int32) : Option ((Int32 × Int32) ⊕ (Int32)) :=
  if pb_is h v0 5 then (if (pb_I h v0 0) < s.2 then (some (.inr s.1)) else ((f_78 v0 s.2 (pb_I h v0 0)).bind fun r2 => (if r2 = 0 then (some (.inl ((s.1, s.2 + 1)))) else ((f_77 N h v0 s.2).bind fun r3 => (if ¬ r3 = v1 then (some (.inl ((s.1, s.2 + 1)))) else (some (.inl ((s.1 + 1, s.2 + 1))))))))) else none
/-- Poll.benchesFor -/
def f_81 (N : Nat) (h : pb_HP) (v0 : Nat) (v1 : Int32) : Option (Int32) :=
  (pb_wl (f_81_4s N h v0 v1) N ((0, 1))).bind fun e7 => (some e7)
set_option maxRecDepth 4000 in
theorem l_81 {xs : List Int32} {d : Nat} {N : Nat} {h : pb_HP} {v0 : Nat} {v1 : Int32} {r : Int32} (hf : f_81 N h v0 v1 = some r) : pb_AR xs (d + 2) 81 h [.ref v0, .int v1] (some (.int r)) h := by
  intro G hG
  have hc_ : pb_CODE 81 = kc_81 := rfl
  rw [hc_] at hG
  have hl_4 : ∀ (v0 : Nat) (v1 : Int32) (n_ : Nat) (s : Int32 × Int32) (e : Int32), pb_wl (f_81_4s N h v0 v1) n_ s = some e → G 42 [(2, .int e)] [] h → G 4 [(0, .ref v0), (1, .int v1), (2, .int s.1), (3, .int s.2)] [] h := by
    intro v0 v1
    refine pb_wl_ind (I := fun (s : Int32 × Int32) => G 4 [(0, .ref v0), (1, .int v1), (2, .int s.1), (3, .int s.2)] [] h) (K := fun (e : Int32) => G 42 [(2, .int e)] [] h) (fun s x hf hk => ?_)
    unfold f_81_4s at hf
    refine hG.1 1 4 kb_81_4 _ _ _ rfl ?_
    obtain ⟨hg1, hf⟩ := pb_gd hf
    refine And.intro hg1 (?_)
    refine And.intro (fun (hc6 : (pb_I h v0 0) < s.2) => ?_) (fun (hc6 : ¬ ((pb_I h v0 0) < s.2)) => ?_)
    · rw [if_pos hc6] at hf
      cases hf
      exact hG.2 42 _ [2] _ _ _ rfl hk
    · rw [if_neg hc6] at hf
      refine And.intro hg1 (?_)
      obtain ⟨r2, cr2, hf⟩ := Option.bind_eq_some_iff.mp hf
      refine And.intro hg1 (And.intro (Nat.le_of_ble_eq_true rfl) (And.intro (Nat.le_of_ble_eq_true rfl) (Exists.intro (some (.int r2)) (Exists.intro _ (And.intro (l_78 cr2) (?_))))))
      refine And.intro (fun (hc5 : r2 = 0) => ?_) (fun (hc5 : ¬ (r2 = 0)) => ?_)
      · rw [if_pos hc5] at hf
        refine hG.1 2 36 kb_81_36 _ _ _ rfl ?_
        cases hf
        exact hk
      · rw [if_neg hc5] at hf
        obtain ⟨r3, cr3, hf⟩ := Option.bind_eq_some_iff.mp hf
        refine And.intro hg1 (And.intro (Nat.le_of_ble_eq_true rfl) (And.intro (Nat.le_of_ble_eq_true rfl) (Exists.intro (some (.int r3)) (Exists.intro _ (And.intro (l_77 cr3) (?_))))))
        refine And.intro (fun (hc4 : ¬ r3 = v1) => ?_) (fun (hc4 : ¬ (¬ r3 = v1)) => ?_)
        · rw [if_pos hc4] at hf
          refine hG.1 2 36 kb_81_36 _ _ _ rfl ?_
          cases hf
          exact hk
        · rw [if_neg hc4] at hf
          refine hG.1 2 36 kb_81_36 _ _ _ rfl ?_
          cases hf
          exact hk
  unfold f_81 at hf
  refine hG.1 0 0 kb_81_0 _ _ _ rfl ?_
  obtain ⟨e7, he_e7, hf⟩ := Option.bind_eq_some_iff.mp hf
  refine hl_4 _ _ _ _ _ he_e7 ?_
  refine hG.1 3 42 kb_81_42 _ _ _ rfl ?_
  cases hf
  exact And.intro (fun z_ => absurd z_ (by decide)) (And.intro rfl rfl)
def f_82_9s (N : Nat) (h : pb_HP) (v0 : Nat) (v2 : Int32) (s : Int32 × Int32) : Option ((Int32 × Int32) ⊕ (Int32)) :=
  if pb_is h v0 5 then (if (pb_I h v0 0) < s.2 then (some (.inr s.1)) else ((f_78 v0 s.2 ((pb_I h v0 0) &&& (v2 ^^^ ((-1))))).bind fun r2 => (if r2 = 0 then (some (.inl ((s.1, s.2 + 1)))) else ((f_77 N h v0 s.2).bind fun r3 => ((f_77 N h v0 (s.2 ||| v2)).bind fun r4 => (if r3 = r4 then (some (.inl ((s.1, s.2 + 1)))) else (some (.inl ((s.1 + 1, s.2 + 1)))))))))) else none
/-- Poll.decided -/
def f_82 (N : Nat) (h : pb_HP) (v0 : Nat) (v1 : Int32) : Option (Int32) :=
  (pb_wl (f_82_9s N h v0 ((1 : Int32) <<< (v1 &&& 31))) N ((0, 0))).bind fun e8 => (some e8)
set_option maxRecDepth 4000 in
theorem l_82 {xs : List Int32} {d : Nat} {N : Nat} {h : pb_HP} {v0 : Nat} {v1 : Int32} {r : Int32} (hf : f_82 N h v0 v1 = some r) : pb_AR xs (d + 2) 82 h [.ref v0, .int v1] (some (.int r)) h := by
  intro G hG
  have hc_ : pb_CODE 82 = kc_82 := rfl
  rw [hc_] at hG
  have hl_9 : ∀ (v0 : Nat) (v2 : Int32) (n_ : Nat) (s : Int32 × Int32) (e : Int32), pb_wl (f_82_9s N h v0 v2) n_ s = some e → G 61 [(3, .int e)] [] h → G 9 [(0, .ref v0), (2, .int v2), (3, .int s.1), (4, .int s.2)] [] h := by
    intro v0 v2
    refine pb_wl_ind (I := fun (s : Int32 × Int32) => G 9 [(0, .ref v0), (2, .int v2), (3, .int s.1), (4, .int s.2)] [] h) (K := fun (e : Int32) => G 61 [(3, .int e)] [] h) (fun s x hf hk => ?_)
    unfold f_82_9s at hf
    refine hG.1 1 9 kb_82_9 _ _ _ rfl ?_
    obtain ⟨hg1, hf⟩ := pb_gd hf
    refine And.intro hg1 (?_)
    refine And.intro (fun (hc7 : (pb_I h v0 0) < s.2) => ?_) (fun (hc7 : ¬ ((pb_I h v0 0) < s.2)) => ?_)
    · rw [if_pos hc7] at hf
      cases hf
      exact hG.2 61 _ [2] _ _ _ rfl hk
    · rw [if_neg hc7] at hf
      refine And.intro hg1 (?_)
      obtain ⟨r2, cr2, hf⟩ := Option.bind_eq_some_iff.mp hf
      refine And.intro hg1 (And.intro (Nat.le_of_ble_eq_true rfl) (And.intro (Nat.le_of_ble_eq_true rfl) (Exists.intro (some (.int r2)) (Exists.intro _ (And.intro (l_78 cr2) (?_))))))
      refine And.intro (fun (hc6 : r2 = 0) => ?_) (fun (hc6 : ¬ (r2 = 0)) => ?_)
      · rw [if_pos hc6] at hf
        refine hG.1 2 55 kb_82_55 _ _ _ rfl ?_
        cases hf
        exact hk
      · rw [if_neg hc6] at hf
        obtain ⟨r3, cr3, hf⟩ := Option.bind_eq_some_iff.mp hf
        refine And.intro hg1 (And.intro (Nat.le_of_ble_eq_true rfl) (And.intro (Nat.le_of_ble_eq_true rfl) (Exists.intro (some (.int r3)) (Exists.intro _ (And.intro (l_77 cr3) (?_))))))
        obtain ⟨r4, cr4, hf⟩ := Option.bind_eq_some_iff.mp hf
        refine And.intro hg1 (And.intro (Nat.le_of_ble_eq_true rfl) (And.intro (Nat.le_of_ble_eq_true rfl) (Exists.intro (some (.int r4)) (Exists.intro _ (And.intro (l_77 cr4) (?_))))))
        refine And.intro (fun (hc5 : r3 = r4) => ?_) (fun (hc5 : ¬ (r3 = r4)) => ?_)
        · rw [if_pos hc5] at hf
          refine hG.1 2 55 kb_82_55 _ _ _ rfl ?_
          cases hf
          exact hk
        · rw [if_neg hc5] at hf
          refine hG.1 2 55 kb_82_55 _ _ _ rfl ?_
          cases hf
          exact hk
  unfold f_82 at hf
  refine hG.1 0 0 kb_82_0 _ _ _ rfl ?_
  obtain ⟨e8, he_e8, hf⟩ := Option.bind_eq_some_iff.mp hf
  refine hG.2 9 _ [0, 2, 3, 4] _ _ _ rfl ?_
  refine hl_9 _ _ _ _ _ he_e8 ?_
  refine hG.1 3 61 kb_82_61 _ _ _ rfl ?_
  cases hf
  exact And.intro (fun z_ => absurd z_ (by decide)) (And.intro rfl rfl)
def f_83_37s (N : Nat) (v0 : Nat) (v1 : Nat) (v2 : Int32) (v4 : Int32) (v5 : Int32) (s : Int32 × Int32 × pb_HP) : Option ((Int32 × Int32 × pb_HP) ⊕ (Int32 × pb_HP)) :=
  if pb_is s.2.2 v0 5 then (if (pb_I s.2.2 v0 1) ≤ s.2.1 then (some (.inr ((s.1, s.2.2)))) else (if ¬ s.1 = ((-1)) then (some (.inr ((s.1, s.2.2)))) else ((pb_R s.2.2 v0 2).bind fun q8 => (if pb_ar s.2.2 q8 12 v2 then ((f_77 N (pb_pI s.2.2 q8 v2.toNatClampNeg s.2.1) v0 63).bind fun r10 => (if r10 = 6 then (some (.inl ((s.1, s.2.1 + 1, pb_pI s.2.2 q8 v2.toNatClampNeg s.2.1)))) else (if pb_is s.2.2 v1 0 then ((f_9 N (pb_pI s.2.2 q8 v2.toNatClampNeg s.2.1) v1 v2 r10).bind fun r12 => (if r12 ≤ v5 then (some (.inl ((s.1, s.2.1 + 1, pb_pI s.2.2 q8 v2.toNatClampNeg s.2.1)))) else (some (.inl ((s.2.1, s.2.1 + 1, pb_pI s.2.2 q8 v2.toNatClampNeg s.2.1)))))) else none))) else none)))) else none
def f_83_97 (N : Nat) (h : pb_HP) (v0 : Nat) (v2 : Int32) (v4 : Int32) (v6 : Int32) : Option (Int32 × pb_HP) :=
  if pb_is h v0 5 then ((pb_R h v0 2).bind fun q19 => (if pb_ar h q19 12 v2 then (some ((v6, pb_pI h q19 v2.toNatClampNeg v4))) else none)) else none
/-- Poll.bestLie -/
def f_83 (N : Nat) (h : pb_HP) (v0 : Nat) (v1 : Nat) (v2 : Int32) : Option (Int32 × pb_HP) :=
  if pb_is h v0 5 then ((f_77 N h v0 63).bind fun r2 => (if ¬ r2 = 6 then ((pb_R h v0 2).bind fun q3 => (if pb_ar h q3 12 v2 then (if pb_is h v1 0 then ((f_9 N h v1 v2 r2).bind fun r6 => ((pb_wl (f_83_37s N v0 v1 v2 (pb_I h q3 v2.toNatClampNeg) r6) N (((-1), 0, h))).bind fun e17 => (f_83_97 N e17.2 v0 v2 (pb_I h q3 v2.toNatClampNeg) e17.1))) else none) else none)) else (some (((-1), h))))) else none
set_option maxRecDepth 4000 in
theorem l_83 {xs : List Int32} {d : Nat} {N : Nat} {h : pb_HP} {v0 : Nat} {v1 : Nat} {v2 : Int32} {r : Int32} {hE : pb_HP} (hf : f_83 N h v0 v1 v2 = some ((r, hE))) : pb_AR xs (d + 2) 83 h [.ref v0, .ref v1, .int v2] (some (.int r)) hE := by
  intro G hG
  have hc_ : pb_CODE 83 = kc_83 := rfl
  rw [hc_] at hG
  have hl_37 : ∀ (v0 : Nat) (v1 : Nat) (v2 : Int32) (v4 : Int32) (v5 : Int32) (n_ : Nat) (s : Int32 × Int32 × pb_HP) (e : Int32 × pb_HP), pb_wl (f_83_37s N v0 v1 v2 v4 v5) n_ s = some e → G 97 [(0, .ref v0), (2, .int v2), (4, .int v4), (6, .int e.1)] [] e.2 → G 37 [(0, .ref v0), (1, .ref v1), (2, .int v2), (4, .int v4), (5, .int v5), (6, .int s.1), (7, .int s.2.1)] [] s.2.2 := by
    intro v0 v1 v2 v4 v5
    refine pb_wl_ind (I := fun (s : Int32 × Int32 × pb_HP) => G 37 [(0, .ref v0), (1, .ref v1), (2, .int v2), (4, .int v4), (5, .int v5), (6, .int s.1), (7, .int s.2.1)] [] s.2.2) (K := fun (e : Int32 × pb_HP) => G 97 [(0, .ref v0), (2, .int v2), (4, .int v4), (6, .int e.1)] [] e.2) (fun s x hf hk => ?_)
    unfold f_83_37s at hf
    refine hG.1 2 37 kb_83_37 _ _ _ rfl ?_
    obtain ⟨hg7, hf⟩ := pb_gd hf
    refine And.intro hg7 (?_)
    refine And.intro (fun (hc16 : (pb_I s.2.2 v0 1) ≤ s.2.1) => ?_) (fun (hc16 : ¬ ((pb_I s.2.2 v0 1) ≤ s.2.1)) => ?_)
    · rw [if_pos hc16] at hf
      cases hf
      exact hG.2 97 _ [0, 2, 3, 5] _ _ _ rfl hk
    · rw [if_neg hc16] at hf
      refine And.intro (fun (hc15 : ¬ s.1 = ((-1))) => ?_) (fun (hc15 : ¬ (¬ s.1 = ((-1)))) => ?_)
      · rw [if_pos hc15] at hf
        cases hf
        exact hG.2 97 _ [0, 2, 3, 5] _ _ _ rfl hk
      · rw [if_neg hc15] at hf
        obtain ⟨q8, eq8, hf⟩ := Option.bind_eq_some_iff.mp hf
        obtain ⟨hg9, hf⟩ := pb_gd hf
        refine And.intro hg7 (Exists.intro q8 (And.intro eq8 (And.intro hg9 (?_))))
        obtain ⟨r10, cr10, hf⟩ := Option.bind_eq_some_iff.mp hf
        refine And.intro hg7 (And.intro (Nat.le_of_ble_eq_true rfl) (And.intro (Nat.le_of_ble_eq_true rfl) (Exists.intro (some (.int r10)) (Exists.intro _ (And.intro (l_77 cr10) (?_))))))
        refine And.intro (fun (hc14 : r10 = 6) => ?_) (fun (hc14 : ¬ (r10 = 6)) => ?_)
        · rw [if_pos hc14] at hf
          refine hG.1 3 91 kb_83_91 _ _ _ rfl ?_
          cases hf
          exact hG.2 37 _ [0, 1, 2, 3, 4, 5, 6] _ _ _ rfl hk
        · rw [if_neg hc14] at hf
          obtain ⟨hg11, hf⟩ := pb_gd hf
          obtain ⟨r12, cr12, hf⟩ := Option.bind_eq_some_iff.mp hf
          refine And.intro hg11 (And.intro (Nat.le_of_ble_eq_true rfl) (And.intro (Nat.le_of_ble_eq_true rfl) (Exists.intro (some (.int r12)) (Exists.intro _ (And.intro (l_9 cr12) (?_))))))
          refine And.intro (fun (hc13 : r12 ≤ v5) => ?_) (fun (hc13 : ¬ (r12 ≤ v5)) => ?_)
          · rw [if_pos hc13] at hf
            refine hG.1 3 91 kb_83_91 _ _ _ rfl ?_
            cases hf
            exact hG.2 37 _ [0, 1, 2, 3, 4, 5, 6] _ _ _ rfl hk
          · rw [if_neg hc13] at hf
            refine hG.1 3 91 kb_83_91 _ _ _ rfl ?_
            cases hf
            exact hG.2 37 _ [0, 1, 2, 3, 4, 5, 6] _ _ _ rfl hk
  have hj_97 : ∀ (h : pb_HP) (v0 : Nat) (v2 : Int32) (v4 : Int32) (v6 : Int32), f_83_97 N h v0 v2 v4 v6 = some ((r, hE)) → G 97 [(0, .ref v0), (2, .int v2), (4, .int v4), (6, .int v6)] [] h := by
    intro h v0 v2 v4 v6 hf
    unfold f_83_97 at hf
    refine hG.1 4 97 kb_83_97 _ _ _ rfl ?_
    obtain ⟨hg18, hf⟩ := pb_gd hf
    obtain ⟨q19, eq19, hf⟩ := Option.bind_eq_some_iff.mp hf
    obtain ⟨hg20, hf⟩ := pb_gd hf
    refine And.intro hg18 (Exists.intro q19 (And.intro eq19 (And.intro hg20 (?_))))
    cases hf
    exact And.intro (fun z_ => absurd z_ (by decide)) (And.intro rfl rfl)
  unfold f_83 at hf
  refine hG.1 0 0 kb_83_0 _ _ _ rfl ?_
  obtain ⟨hg1, hf⟩ := pb_gd hf
  obtain ⟨r2, cr2, hf⟩ := Option.bind_eq_some_iff.mp hf
  refine And.intro hg1 (And.intro (Nat.le_of_ble_eq_true rfl) (And.intro (Nat.le_of_ble_eq_true rfl) (Exists.intro (some (.int r2)) (Exists.intro _ (And.intro (l_77 cr2) (?_))))))
  refine And.intro (fun (hc21 : ¬ r2 = 6) => ?_) (fun (hc21 : ¬ (¬ r2 = 6)) => ?_)
  · rw [if_pos hc21] at hf
    refine hG.1 1 15 kb_83_15 _ _ _ rfl ?_
    obtain ⟨q3, eq3, hf⟩ := Option.bind_eq_some_iff.mp hf
    obtain ⟨hg4, hf⟩ := pb_gd hf
    obtain ⟨hg5, hf⟩ := pb_gd hf
    refine And.intro hg1 (Exists.intro q3 (And.intro eq3 (And.intro hg4 (?_))))
    obtain ⟨r6, cr6, hf⟩ := Option.bind_eq_some_iff.mp hf
    refine And.intro hg5 (And.intro (Nat.le_of_ble_eq_true rfl) (And.intro (Nat.le_of_ble_eq_true rfl) (Exists.intro (some (.int r6)) (Exists.intro _ (And.intro (l_9 cr6) (?_))))))
    obtain ⟨e17, he_e17, hf⟩ := Option.bind_eq_some_iff.mp hf
    refine hG.2 37 _ [0, 1, 2, 4, 5, 6, 7] _ _ _ rfl ?_
    refine hl_37 _ _ _ _ _ _ _ _ he_e17 ?_
    exact hj_97 _ _ _ _ _ hf
  · rw [if_neg hc21] at hf
    cases hf
    exact And.intro (fun z_ => absurd z_ (by decide)) (And.intro rfl rfl)
def f_88_47 (N : Nat) (h : pb_HP) (v0 : Nat) : Option ((pb_HP) ⊕ (pb_HP)) :=
  if pb_is h v0 6 then (some (.inl (pb_pI h v0 8 ((pb_I h v0 8) + 1)))) else none
def f_88_8s (N : Nat) (v0 : Nat) (s : pb_HP) : Option ((pb_HP) ⊕ (pb_HP)) :=
  if pb_is s v0 6 then (if (pb_I s v0 6) ≤ (pb_I s v0 8) then (some (.inr s)) else ((pb_R s v0 5).bind fun q3 => (if pb_ar s q3 13 (pb_I s v0 8) then (if (pb_I s q3 (pb_I s v0 8).toNatClampNeg) = 32 then (f_88_47 N s v0) else (if ¬ (pb_I s q3 (pb_I s v0 8).toNatClampNeg) = 10 then (some (.inr s)) else (f_88_47 N s v0))) else none))) else none
def f_88_255 (N : Nat) (h : pb_HP) (s0 : Int32) (s1 : Nat) : Option (pb_HP) :=
  if pb_is h s1 6 then (some (pb_pI h s1 7 s0)) else none
def f_88_161s (N : Nat) (v0 : Nat) (s : pb_HP) : Option ((pb_HP) ⊕ (pb_HP)) :=
  if pb_is s v0 6 then (if (pb_I s v0 6) ≤ (pb_I s v0 9) then (some (.inr s)) else ((pb_R s v0 5).bind fun q19 => (if pb_ar s q19 13 (pb_I s v0 9) then ((f_90 (pb_I s q19 (pb_I s v0 9).toNatClampNeg)).bind fun r21 => (if r21 = 0 then (some (.inr s)) else (some (.inl (pb_pI s v0 9 ((pb_I s v0 9) + 1)))))) else none))) else none
def f_88_219 (N : Nat) (h : pb_HP) (s0 : Int32) (s1 : Nat) : Option (pb_HP) :=
  if pb_is h s1 6 then (some (pb_pI h s1 7 s0)) else none
def f_88_200 (N : Nat) (h : pb_HP) (v0 : Nat) : Option (pb_HP) :=
  if pb_is h v0 6 then (if 2 < ((pb_I h v0 9) - (pb_I h v0 8)) then (f_88_219 N h 4 v0) else (f_88_219 N h 2 v0)) else none
def f_88_107s (N : Nat) (v0 : Nat) (s : pb_HP) : Option ((pb_HP) ⊕ (pb_HP)) :=
  if pb_is s v0 6 then (if (pb_I s v0 6) ≤ (pb_I s v0 9) then (some (.inr s)) else ((pb_R s v0 5).bind fun q30 => (if pb_ar s q30 13 (pb_I s v0 9) then ((f_89 (pb_I s q30 (pb_I s v0 9).toNatClampNeg)).bind fun r32 => (if r32 = 0 then (some (.inr s)) else (some (.inl (pb_pI s v0 9 ((pb_I s v0 9) + 1)))))) else none))) else none
def f_88_60 (N : Nat) (h : pb_HP) (v0 : Nat) : Option (pb_HP) :=
  if pb_is h v0 6 then (if (pb_I (pb_pI h v0 9 (pb_I h v0 8)) v0 8) < (pb_I (pb_pI h v0 9 (pb_I h v0 8)) v0 6) then ((pb_R h v0 5).bind fun q11 => (if pb_ar h q11 13 (pb_I (pb_pI h v0 9 (pb_I h v0 8)) v0 8) then ((f_89 (pb_I (pb_pI h v0 9 (pb_I h v0 8)) q11 (pb_I (pb_pI h v0 9 (pb_I h v0 8)) v0 8).toNatClampNeg)).bind fun r13 => (if r13 = 0 then ((f_90 (pb_I (pb_pI h v0 9 (pb_I h v0 8)) q11 (pb_I (pb_pI h v0 9 (pb_I h v0 8)) v0 8).toNatClampNeg)).bind fun r14 => (if r14 = 0 then (if pb_ar h q11 13 (pb_I (pb_pI (pb_pI h v0 9 (pb_I h v0 8)) v0 9 ((pb_I (pb_pI h v0 9 (pb_I h v0 8)) v0 9) + 1)) v0 8) then (if ¬ (pb_I (pb_pI (pb_pI h v0 9 (pb_I h v0 8)) v0 9 ((pb_I (pb_pI h v0 9 (pb_I h v0 8)) v0 9) + 1)) q11 (pb_I (pb_pI (pb_pI h v0 9 (pb_I h v0 8)) v0 9 ((pb_I (pb_pI h v0 9 (pb_I h v0 8)) v0 9) + 1)) v0 8).toNatClampNeg) = 59 then (f_88_255 N (pb_pI (pb_pI h v0 9 (pb_I h v0 8)) v0 9 ((pb_I (pb_pI h v0 9 (pb_I h v0 8)) v0 9) + 1)) 4 v0) else (f_88_255 N (pb_pI (pb_pI h v0 9 (pb_I h v0 8)) v0 9 ((pb_I (pb_pI h v0 9 (pb_I h v0 8)) v0 9) + 1)) 3 v0)) else none) else ((pb_wl (f_88_161s N v0) N (pb_pI h v0 9 (pb_I h v0 8))).bind fun e24 => (f_88_200 N e24 v0)))) else ((pb_wl (f_88_107s N v0) N (pb_pI (pb_pI h v0 9 (pb_I h v0 8)) v0 7 1)).bind fun e35 => (some e35)))) else none)) else (some (pb_pI (pb_pI h v0 9 (pb_I h v0 8)) v0 7 0))) else none
/-- Reader.next -/
def f_88 (N : Nat) (h : pb_HP) (v0 : Nat) : Option (pb_HP) :=
  if pb_is h v0 6 then ((pb_wl (f_88_8s N v0) N (pb_pI h v0 8 (pb_I h v0 9))).bind fun e9 => (f_88_60 N e9 v0)) else none
set_option maxRecDepth 4000 in
theorem l_88 {xs : List Int32} {d : Nat} {N : Nat} {h : pb_HP} {v0 : Nat} {hE : pb_HP} (hf : f_88 N h v0 = some hE) : pb_AR xs (d + 2) 88 h [.ref v0] none hE := by
  intro G hG
  have hc_ : pb_CODE 88 = kc_88 := rfl
  rw [hc_] at hG
  have hj_47 : ∀ (h : pb_HP) (v0 : Nat) x, f_88_47 N h v0 = some x → pb_kk (fun (s_ : pb_HP) => G 8 [(0, .ref v0)] [] s_) (fun (e_ : pb_HP) => G 60 [(0, .ref v0)] [] e_) x → G 47 [(0, .ref v0)] [] h := by
    intro h v0 x hf hk
    unfold f_88_47 at hf
    refine hG.1 2 47 kb_88_47 _ _ _ rfl ?_
    obtain ⟨hg5, hf⟩ := pb_gd hf
    refine And.intro hg5 (And.intro hg5 (?_))
    cases hf
    exact hk
  have hl_8 : ∀ (v0 : Nat) (n_ : Nat) (s : pb_HP) (e : pb_HP), pb_wl (f_88_8s N v0) n_ s = some e → G 60 [(0, .ref v0)] [] e → G 8 [(0, .ref v0)] [] s := by
    intro v0
    refine pb_wl_ind (I := fun (s : pb_HP) => G 8 [(0, .ref v0)] [] s) (K := fun (e : pb_HP) => G 60 [(0, .ref v0)] [] e) (fun s x hf hk => ?_)
    unfold f_88_8s at hf
    refine hG.1 1 8 kb_88_8 _ _ _ rfl ?_
    obtain ⟨hg2, hf⟩ := pb_gd hf
    refine And.intro hg2 (And.intro hg2 (?_))
    refine And.intro (fun (hc8 : (pb_I s v0 6) ≤ (pb_I s v0 8)) => ?_) (fun (hc8 : ¬ ((pb_I s v0 6) ≤ (pb_I s v0 8))) => ?_)
    · rw [if_pos hc8] at hf
      cases hf
      exact hk
    · rw [if_neg hc8] at hf
      obtain ⟨q3, eq3, hf⟩ := Option.bind_eq_some_iff.mp hf
      obtain ⟨hg4, hf⟩ := pb_gd hf
      refine And.intro hg2 (Exists.intro q3 (And.intro eq3 (And.intro hg2 (And.intro hg4 (?_)))))
      refine And.intro (fun (hc7 : (pb_I s q3 (pb_I s v0 8).toNatClampNeg) = 32) => ?_) (fun (hc7 : ¬ ((pb_I s q3 (pb_I s v0 8).toNatClampNeg) = 32)) => ?_)
      · rw [if_pos hc7] at hf
        exact hj_47 _ _ _ hf hk
      · rw [if_neg hc7] at hf
        refine And.intro hg2 (Exists.intro q3 (And.intro eq3 (And.intro hg2 (And.intro hg4 (?_)))))
        refine And.intro (fun (hc6 : ¬ (pb_I s q3 (pb_I s v0 8).toNatClampNeg) = 10) => ?_) (fun (hc6 : ¬ (¬ (pb_I s q3 (pb_I s v0 8).toNatClampNeg) = 10)) => ?_)
        · rw [if_pos hc6] at hf
          cases hf
          exact hk
        · rw [if_neg hc6] at hf
          exact hj_47 _ _ _ hf hk
  have hj_255 : ∀ (h : pb_HP) (s0 : Int32) (s1 : Nat), f_88_255 N h s0 s1 = some hE → G 255 [] [.int s0, .ref s1] h := by
    intro h s0 s1 hf
    unfold f_88_255 at hf
    refine hG.1 13 255 kb_88_255 _ _ _ rfl ?_
    obtain ⟨hg16, hf⟩ := pb_gd hf
    refine And.intro hg16 (?_)
    refine hG.1 14 258 kb_88_258 _ _ _ rfl ?_
    cases hf
    exact And.intro rfl rfl
  have hl_161 : ∀ (v0 : Nat) (n_ : Nat) (s : pb_HP) (e : pb_HP), pb_wl (f_88_161s N v0) n_ s = some e → G 200 [(0, .ref v0)] [] e → G 161 [(0, .ref v0)] [] s := by
    intro v0
    refine pb_wl_ind (I := fun (s : pb_HP) => G 161 [(0, .ref v0)] [] s) (K := fun (e : pb_HP) => G 200 [(0, .ref v0)] [] e) (fun s x hf hk => ?_)
    unfold f_88_161s at hf
    refine hG.1 7 161 kb_88_161 _ _ _ rfl ?_
    obtain ⟨hg18, hf⟩ := pb_gd hf
    refine And.intro hg18 (And.intro hg18 (?_))
    refine And.intro (fun (hc23 : (pb_I s v0 6) ≤ (pb_I s v0 9)) => ?_) (fun (hc23 : ¬ ((pb_I s v0 6) ≤ (pb_I s v0 9))) => ?_)
    · rw [if_pos hc23] at hf
      cases hf
      exact hk
    · rw [if_neg hc23] at hf
      obtain ⟨q19, eq19, hf⟩ := Option.bind_eq_some_iff.mp hf
      obtain ⟨hg20, hf⟩ := pb_gd hf
      refine And.intro hg18 (Exists.intro q19 (And.intro eq19 (And.intro hg18 (And.intro hg20 (?_)))))
      obtain ⟨r21, cr21, hf⟩ := Option.bind_eq_some_iff.mp hf
      refine And.intro (Nat.le_of_ble_eq_true rfl) (And.intro (Nat.le_of_ble_eq_true rfl) (And.intro (Nat.le_of_ble_eq_true rfl) (Exists.intro (some (.int r21)) (Exists.intro _ (And.intro (l_90 cr21) (?_))))))
      refine And.intro (fun (hc22 : r21 = 0) => ?_) (fun (hc22 : ¬ (r21 = 0)) => ?_)
      · rw [if_pos hc22] at hf
        cases hf
        exact hk
      · rw [if_neg hc22] at hf
        refine And.intro hg18 (And.intro hg18 (?_))
        cases hf
        exact hk
  have hj_219 : ∀ (h : pb_HP) (s0 : Int32) (s1 : Nat), f_88_219 N h s0 s1 = some hE → G 219 [] [.int s0, .ref s1] h := by
    intro h s0 s1 hf
    unfold f_88_219 at hf
    refine hG.1 10 219 kb_88_219 _ _ _ rfl ?_
    obtain ⟨hg26, hf⟩ := pb_gd hf
    refine And.intro hg26 (?_)
    refine hG.1 14 258 kb_88_258 _ _ _ rfl ?_
    cases hf
    exact And.intro rfl rfl
  have hj_200 : ∀ (h : pb_HP) (v0 : Nat), f_88_200 N h v0 = some hE → G 200 [(0, .ref v0)] [] h := by
    intro h v0 hf
    unfold f_88_200 at hf
    refine hG.1 8 200 kb_88_200 _ _ _ rfl ?_
    obtain ⟨hg25, hf⟩ := pb_gd hf
    refine And.intro hg25 (And.intro hg25 (?_))
    refine And.intro (fun (hc27 : 2 < ((pb_I h v0 9) - (pb_I h v0 8))) => ?_) (fun (hc27 : ¬ (2 < ((pb_I h v0 9) - (pb_I h v0 8)))) => ?_)
    · rw [if_pos hc27] at hf
      refine hG.1 9 218 kb_88_218 _ _ _ rfl ?_
      refine hG.2 219 _ [] _ _ _ rfl ?_
      exact hj_219 _ _ _ hf
    · rw [if_neg hc27] at hf
      refine hG.2 219 _ [] _ _ _ rfl ?_
      exact hj_219 _ _ _ hf
  have hl_107 : ∀ (v0 : Nat) (n_ : Nat) (s : pb_HP) (e : pb_HP), pb_wl (f_88_107s N v0) n_ s = some e → G 258 [] [] e → G 107 [(0, .ref v0)] [] s := by
    intro v0
    refine pb_wl_ind (I := fun (s : pb_HP) => G 107 [(0, .ref v0)] [] s) (K := fun (e : pb_HP) => G 258 [] [] e) (fun s x hf hk => ?_)
    unfold f_88_107s at hf
    refine hG.1 5 107 kb_88_107 _ _ _ rfl ?_
    obtain ⟨hg29, hf⟩ := pb_gd hf
    refine And.intro hg29 (And.intro hg29 (?_))
    refine And.intro (fun (hc34 : (pb_I s v0 6) ≤ (pb_I s v0 9)) => ?_) (fun (hc34 : ¬ ((pb_I s v0 6) ≤ (pb_I s v0 9))) => ?_)
    · rw [if_pos hc34] at hf
      cases hf
      exact hG.2 258 _ [] _ _ _ rfl hk
    · rw [if_neg hc34] at hf
      obtain ⟨q30, eq30, hf⟩ := Option.bind_eq_some_iff.mp hf
      obtain ⟨hg31, hf⟩ := pb_gd hf
      refine And.intro hg29 (Exists.intro q30 (And.intro eq30 (And.intro hg29 (And.intro hg31 (?_)))))
      obtain ⟨r32, cr32, hf⟩ := Option.bind_eq_some_iff.mp hf
      refine And.intro (Nat.le_of_ble_eq_true rfl) (And.intro (Nat.le_of_ble_eq_true rfl) (And.intro (Nat.le_of_ble_eq_true rfl) (Exists.intro (some (.int r32)) (Exists.intro _ (And.intro (l_89 cr32) (?_))))))
      refine And.intro (fun (hc33 : r32 = 0) => ?_) (fun (hc33 : ¬ (r32 = 0)) => ?_)
      · rw [if_pos hc33] at hf
        cases hf
        exact hG.2 258 _ [] _ _ _ rfl hk
      · rw [if_neg hc33] at hf
        refine And.intro hg29 (And.intro hg29 (?_))
        cases hf
        exact hk
  have hj_60 : ∀ (h : pb_HP) (v0 : Nat), f_88_60 N h v0 = some hE → G 60 [(0, .ref v0)] [] h := by
    intro h v0 hf
    unfold f_88_60 at hf
    refine hG.1 3 60 kb_88_60 _ _ _ rfl ?_
    obtain ⟨hg10, hf⟩ := pb_gd hf
    refine And.intro hg10 (And.intro hg10 (And.intro hg10 (And.intro hg10 (?_))))
    refine And.intro (fun (hc37 : (pb_I (pb_pI h v0 9 (pb_I h v0 8)) v0 8) < (pb_I (pb_pI h v0 9 (pb_I h v0 8)) v0 6)) => ?_) (fun (hc37 : ¬ ((pb_I (pb_pI h v0 9 (pb_I h v0 8)) v0 8) < (pb_I (pb_pI h v0 9 (pb_I h v0 8)) v0 6))) => ?_)
    · rw [if_pos hc37] at hf
      refine hG.1 4 87 kb_88_87 _ _ _ rfl ?_
      obtain ⟨q11, eq11, hf⟩ := Option.bind_eq_some_iff.mp hf
      obtain ⟨hg12, hf⟩ := pb_gd hf
      refine And.intro hg10 (Exists.intro q11 (And.intro eq11 (And.intro hg10 (And.intro hg12 (?_)))))
      obtain ⟨r13, cr13, hf⟩ := Option.bind_eq_some_iff.mp hf
      refine And.intro (Nat.le_of_ble_eq_true rfl) (And.intro (Nat.le_of_ble_eq_true rfl) (And.intro (Nat.le_of_ble_eq_true rfl) (Exists.intro (some (.int r13)) (Exists.intro _ (And.intro (l_89 cr13) (?_))))))
      refine And.intro (fun (hc36 : r13 = 0) => ?_) (fun (hc36 : ¬ (r13 = 0)) => ?_)
      · rw [if_pos hc36] at hf
        refine hG.1 6 146 kb_88_146 _ _ _ rfl ?_
        refine And.intro hg10 (Exists.intro q11 (And.intro eq11 (And.intro hg10 (And.intro hg12 (?_)))))
        obtain ⟨r14, cr14, hf⟩ := Option.bind_eq_some_iff.mp hf
        refine And.intro (Nat.le_of_ble_eq_true rfl) (And.intro (Nat.le_of_ble_eq_true rfl) (And.intro (Nat.le_of_ble_eq_true rfl) (Exists.intro (some (.int r14)) (Exists.intro _ (And.intro (l_90 cr14) (?_))))))
        refine And.intro (fun (hc28 : r14 = 0) => ?_) (fun (hc28 : ¬ (r14 = 0)) => ?_)
        · rw [if_pos hc28] at hf
          refine hG.1 11 225 kb_88_225 _ _ _ rfl ?_
          obtain ⟨hg15, hf⟩ := pb_gd hf
          refine And.intro hg10 (And.intro hg10 (And.intro hg10 (Exists.intro q11 (And.intro eq11 (And.intro hg10 (And.intro hg15 (?_)))))))
          refine And.intro (fun (hc17 : ¬ (pb_I (pb_pI (pb_pI h v0 9 (pb_I h v0 8)) v0 9 ((pb_I (pb_pI h v0 9 (pb_I h v0 8)) v0 9) + 1)) q11 (pb_I (pb_pI (pb_pI h v0 9 (pb_I h v0 8)) v0 9 ((pb_I (pb_pI h v0 9 (pb_I h v0 8)) v0 9) + 1)) v0 8).toNatClampNeg) = 59) => ?_) (fun (hc17 : ¬ (¬ (pb_I (pb_pI (pb_pI h v0 9 (pb_I h v0 8)) v0 9 ((pb_I (pb_pI h v0 9 (pb_I h v0 8)) v0 9) + 1)) q11 (pb_I (pb_pI (pb_pI h v0 9 (pb_I h v0 8)) v0 9 ((pb_I (pb_pI h v0 9 (pb_I h v0 8)) v0 9) + 1)) v0 8).toNatClampNeg) = 59)) => ?_)
          · rw [if_pos hc17] at hf
            refine hG.1 12 254 kb_88_254 _ _ _ rfl ?_
            refine hG.2 255 _ [] _ _ _ rfl ?_
            exact hj_255 _ _ _ hf
          · rw [if_neg hc17] at hf
            refine hG.2 255 _ [] _ _ _ rfl ?_
            exact hj_255 _ _ _ hf
        · rw [if_neg hc28] at hf
          obtain ⟨e24, he_e24, hf⟩ := Option.bind_eq_some_iff.mp hf
          refine hl_161 _ _ _ _ he_e24 ?_
          exact hj_200 _ _ hf
      · rw [if_neg hc36] at hf
        refine And.intro hg10 (?_)
        obtain ⟨e35, he_e35, hf⟩ := Option.bind_eq_some_iff.mp hf
        refine hl_107 _ _ _ _ he_e35 ?_
        refine hG.1 14 258 kb_88_258 _ _ _ rfl ?_
        cases hf
        exact And.intro rfl rfl
    · rw [if_neg hc37] at hf
      refine And.intro hg10 (?_)
      refine hG.1 14 258 kb_88_258 _ _ _ rfl ?_
      cases hf
      exact And.intro rfl rfl
  unfold f_88 at hf
  refine hG.1 0 0 kb_88_0 _ _ _ rfl ?_
  obtain ⟨hg1, hf⟩ := pb_gd hf
  refine And.intro hg1 (And.intro hg1 (?_))
  obtain ⟨e9, he_e9, hf⟩ := Option.bind_eq_some_iff.mp hf
  refine hl_8 _ _ _ _ he_e9 ?_
  exact hj_60 _ _ hf
def f_92_28s (N : Nat) (h : pb_HP) (v0 : Nat) (v1 : Int32) (s : Int32) : Option ((Int32) ⊕ ((Int32) ⊕ (Unit))) :=
  if pb_in (v1 + 1) pb_S4.length then (if (pb_S4.getD (v1 + 1).toNatClampNeg 0) ≤ s then (some (.inr (.inr (())))) else (if pb_is h v0 6 then ((f_93 N h v0 s).bind fun r5 => (if r5 = 0 then (some (.inl (s + 1))) else (some (.inr (.inl s))))) else none)) else none
/-- Reader.lineOf -/
def f_92 (N : Nat) (h : pb_HP) (v0 : Nat) (v1 : Int32) : Option (Int32) :=
  if pb_is h v0 6 then (if ¬ (pb_I h v0 7) = 1 then (some ((-1))) else (if 8 ≤ ((pb_I h v0 9) - (pb_I h v0 8)) then (some ((-1))) else (if pb_in v1 pb_S4.length then ((pb_wl (f_92_28s N h v0 v1) N (pb_S4.getD v1.toNatClampNeg 0)).bind fun e8 => (match e8 with | .inl q10 => some q10 | .inr x9 => some ((-1)))) else none))) else none
set_option maxRecDepth 4000 in
theorem l_92 {xs : List Int32} {d : Nat} {N : Nat} {h : pb_HP} {v0 : Nat} {v1 : Int32} {r : Int32} (hf : f_92 N h v0 v1 = some r) : pb_AR xs (d + 2) 92 h [.ref v0, .int v1] (some (.int r)) h := by
  intro G hG
  have hc_ : pb_CODE 92 = kc_92 := rfl
  rw [hc_] at hG
  have hl_28 : ∀ (v0 : Nat) (v1 : Int32) (n_ : Nat) (s : Int32) (e : (Int32) ⊕ (Unit)), pb_wl (f_92_28s N h v0 v1) n_ s = some e → pb_kk (fun (q_ : Int32) => q_ = r) (fun (x_ : Unit) => G 55 [] [] h) e → G 28 [(0, .ref v0), (1, .int v1), (2, .int s)] [] h := by
    intro v0 v1
    refine pb_wl_ind (I := fun (s : Int32) => G 28 [(0, .ref v0), (1, .int v1), (2, .int s)] [] h) (K := fun (e : (Int32) ⊕ (Unit)) => pb_kk (fun (q_ : Int32) => q_ = r) (fun (x_ : Unit) => G 55 [] [] h) e) (fun s x hf hk => ?_)
    unfold f_92_28s at hf
    refine hG.1 1 28 kb_92_28 _ _ _ rfl ?_
    obtain ⟨hg3, hf⟩ := pb_gd hf
    refine And.intro hg3 (?_)
    refine And.intro (fun (hc7 : (pb_S4.getD (v1 + 1).toNatClampNeg 0) ≤ s) => ?_) (fun (hc7 : ¬ ((pb_S4.getD (v1 + 1).toNatClampNeg 0) ≤ s)) => ?_)
    · rw [if_pos hc7] at hf
      cases hf
      exact hG.2 55 _ [] _ _ _ rfl hk
    · rw [if_neg hc7] at hf
      obtain ⟨hg4, hf⟩ := pb_gd hf
      obtain ⟨r5, cr5, hf⟩ := Option.bind_eq_some_iff.mp hf
      refine And.intro hg4 (And.intro (Nat.le_of_ble_eq_true rfl) (And.intro (Nat.le_of_ble_eq_true rfl) (Exists.intro (some (.int r5)) (Exists.intro _ (And.intro (l_93 cr5) (?_))))))
      refine And.intro (fun (hc6 : r5 = 0) => ?_) (fun (hc6 : ¬ (r5 = 0)) => ?_)
      · rw [if_pos hc6] at hf
        refine hG.1 2 49 kb_92_49 _ _ _ rfl ?_
        cases hf
        exact hk
      · rw [if_neg hc6] at hf
        cases hf
        cases hk
        exact And.intro (fun z_ => absurd z_ (by decide)) (And.intro rfl rfl)
  unfold f_92 at hf
  refine hG.1 0 0 kb_92_0 _ _ _ rfl ?_
  obtain ⟨hg1, hf⟩ := pb_gd hf
  refine And.intro hg1 (?_)
  refine And.intro (fun (hc12 : ¬ (pb_I h v0 7) = 1) => ?_) (fun (hc12 : ¬ (¬ (pb_I h v0 7) = 1)) => ?_)
  · rw [if_pos hc12] at hf
    refine hG.1 3 55 kb_92_55 _ _ _ rfl ?_
    cases hf
    exact And.intro (fun z_ => absurd z_ (by decide)) (And.intro rfl rfl)
  · rw [if_neg hc12] at hf
    refine And.intro hg1 (And.intro hg1 (?_))
    refine And.intro (fun (hc11 : 8 ≤ ((pb_I h v0 9) - (pb_I h v0 8))) => ?_) (fun (hc11 : ¬ (8 ≤ ((pb_I h v0 9) - (pb_I h v0 8)))) => ?_)
    · rw [if_pos hc11] at hf
      refine hG.1 3 55 kb_92_55 _ _ _ rfl ?_
      cases hf
      exact And.intro (fun z_ => absurd z_ (by decide)) (And.intro rfl rfl)
    · rw [if_neg hc11] at hf
      obtain ⟨hg2, hf⟩ := pb_gd hf
      refine And.intro hg2 (?_)
      obtain ⟨e8, he_e8, hf⟩ := Option.bind_eq_some_iff.mp hf
      refine hl_28 _ _ _ _ _ he_e8 ?_
      cases e8 with
      | inl q10 =>
        exact Option.some.inj hf
      | inr x9 =>
        try dsimp only at hf
        refine hG.1 3 55 kb_92_55 _ _ _ rfl ?_
        cases hf
        exact And.intro (fun z_ => absurd z_ (by decide)) (And.intro rfl rfl)
/-- Reader.isFullFor -/
def f_94 (h : pb_HP) (v0 : Nat) (v1 : Int32) : Option (Int32) :=
  if ¬ v1 = 0 then (if ¬ v1 = 1 then (if pb_in 2 pb_S4.length then (if v1 < (pb_S4.getD (2 : Int32).toNatClampNeg 0) then (if pb_in 1 pb_S4.length then (if v1 < (pb_S4.getD (1 : Int32).toNatClampNeg 0) then (some 0) else (if pb_is h v0 6 then ((pb_R h v0 1).bind fun q4 => (if pb_is h q4 4 then ((f_71 h q4).bind fun r6 => (if r6 = 0 then (some 0) else (some 1))) else none)) else none)) else none) else (if pb_is h v0 6 then ((pb_R h v0 2).bind fun q10 => (if pb_is h q10 4 then ((f_71 h q10).bind fun r12 => (if r12 = 0 ∨ r12 = 1 then (some r12) else none)) else none)) else none)) else none) else (if pb_is h v0 6 then ((pb_R h v0 0).bind fun q16 => (if pb_is h q16 0 then (if (pb_I h q16 1) < 6 then (some 0) else (some 1)) else none)) else none)) else (if pb_is h v0 6 then ((pb_R h v0 0).bind fun q21 => (if pb_is h q21 0 then (if (pb_I h q21 0) < 6 then (some 0) else (some 1)) else none)) else none)
set_option maxRecDepth 4000 in
theorem l_94 {xs : List Int32} {d : Nat} {h : pb_HP} {v0 : Nat} {v1 : Int32} {r : Int32} (hf : f_94 h v0 v1 = some r) : pb_AR xs (d + 2) 94 h [.ref v0, .int v1] (some (.int r)) h := by
  intro G hG
  have hc_ : pb_CODE 94 = kc_94 := rfl
  rw [hc_] at hG
  unfold f_94 at hf
  refine hG.1 0 0 kb_94_0 _ _ _ rfl ?_
  refine And.intro (fun (hc24 : ¬ v1 = 0) => ?_) (fun (hc24 : ¬ (¬ v1 = 0)) => ?_)
  · rw [if_pos hc24] at hf
    refine hG.1 3 22 kb_94_22 _ _ _ rfl ?_
    refine And.intro (fun (hc19 : ¬ v1 = 1) => ?_) (fun (hc19 : ¬ (¬ v1 = 1)) => ?_)
    · rw [if_pos hc19] at hf
      refine hG.1 6 45 kb_94_45 _ _ _ rfl ?_
      obtain ⟨hg1, hf⟩ := pb_gd hf
      refine And.intro hg1 (?_)
      refine And.intro (fun (hc14 : v1 < (pb_S4.getD (2 : Int32).toNatClampNeg 0)) => ?_) (fun (hc14 : ¬ (v1 < (pb_S4.getD (2 : Int32).toNatClampNeg 0))) => ?_)
      · rw [if_pos hc14] at hf
        refine hG.1 7 62 kb_94_62 _ _ _ rfl ?_
        obtain ⟨hg2, hf⟩ := pb_gd hf
        refine And.intro hg2 (?_)
        refine And.intro (fun (hc8 : v1 < (pb_S4.getD (1 : Int32).toNatClampNeg 0)) => ?_) (fun (hc8 : ¬ (v1 < (pb_S4.getD (1 : Int32).toNatClampNeg 0))) => ?_)
        · rw [if_pos hc8] at hf
          refine hG.1 8 85 kb_94_85 _ _ _ rfl ?_
          refine hG.1 9 86 kb_94_86 _ _ _ rfl ?_
          cases hf
          exact And.intro (fun _ => Or.inl rfl) (And.intro rfl rfl)
        · rw [if_neg hc8] at hf
          obtain ⟨hg3, hf⟩ := pb_gd hf
          obtain ⟨q4, eq4, hf⟩ := Option.bind_eq_some_iff.mp hf
          obtain ⟨hg5, hf⟩ := pb_gd hf
          refine And.intro hg3 (Exists.intro q4 (And.intro eq4 (?_)))
          obtain ⟨r6, cr6, hf⟩ := Option.bind_eq_some_iff.mp hf
          refine And.intro hg5 (And.intro (Nat.le_of_ble_eq_true rfl) (And.intro (Nat.le_of_ble_eq_true rfl) (Exists.intro (some (.int r6)) (Exists.intro _ (And.intro (l_71 cr6) (?_))))))
          refine And.intro (fun (hc7 : r6 = 0) => ?_) (fun (hc7 : ¬ (r6 = 0)) => ?_)
          · rw [if_pos hc7] at hf
            refine hG.1 8 85 kb_94_85 _ _ _ rfl ?_
            refine hG.1 9 86 kb_94_86 _ _ _ rfl ?_
            cases hf
            exact And.intro (fun _ => Or.inl rfl) (And.intro rfl rfl)
          · rw [if_neg hc7] at hf
            refine hG.1 9 86 kb_94_86 _ _ _ rfl ?_
            cases hf
            exact And.intro (fun _ => Or.inr rfl) (And.intro rfl rfl)
      · rw [if_neg hc14] at hf
        obtain ⟨hg9, hf⟩ := pb_gd hf
        obtain ⟨q10, eq10, hf⟩ := Option.bind_eq_some_iff.mp hf
        obtain ⟨hg11, hf⟩ := pb_gd hf
        refine And.intro hg9 (Exists.intro q10 (And.intro eq10 (?_)))
        obtain ⟨r12, cr12, hf⟩ := Option.bind_eq_some_iff.mp hf
        refine And.intro hg11 (And.intro (Nat.le_of_ble_eq_true rfl) (And.intro (Nat.le_of_ble_eq_true rfl) (Exists.intro (some (.int r12)) (Exists.intro _ (And.intro (l_71 cr12) (?_))))))
        obtain ⟨hg13, hf⟩ := pb_gd hf
        cases hf
        exact And.intro (fun _ => hg13) (And.intro rfl rfl)
    · rw [if_neg hc19] at hf
      obtain ⟨hg15, hf⟩ := pb_gd hf
      obtain ⟨q16, eq16, hf⟩ := Option.bind_eq_some_iff.mp hf
      obtain ⟨hg17, hf⟩ := pb_gd hf
      refine And.intro hg15 (Exists.intro q16 (And.intro eq16 (And.intro hg17 (?_))))
      refine And.intro (fun (hc18 : (pb_I h q16 1) < 6) => ?_) (fun (hc18 : ¬ ((pb_I h q16 1) < 6)) => ?_)
      · rw [if_pos hc18] at hf
        refine hG.1 4 43 kb_94_43 _ _ _ rfl ?_
        refine hG.1 5 44 kb_94_44 _ _ _ rfl ?_
        cases hf
        exact And.intro (fun _ => Or.inl rfl) (And.intro rfl rfl)
      · rw [if_neg hc18] at hf
        refine hG.1 5 44 kb_94_44 _ _ _ rfl ?_
        cases hf
        exact And.intro (fun _ => Or.inr rfl) (And.intro rfl rfl)
  · rw [if_neg hc24] at hf
    obtain ⟨hg20, hf⟩ := pb_gd hf
    obtain ⟨q21, eq21, hf⟩ := Option.bind_eq_some_iff.mp hf
    obtain ⟨hg22, hf⟩ := pb_gd hf
    refine And.intro hg20 (Exists.intro q21 (And.intro eq21 (And.intro hg22 (?_))))
    refine And.intro (fun (hc23 : (pb_I h q21 0) < 6) => ?_) (fun (hc23 : ¬ ((pb_I h q21 0) < 6)) => ?_)
    · rw [if_pos hc23] at hf
      refine hG.1 1 20 kb_94_20 _ _ _ rfl ?_
      refine hG.1 2 21 kb_94_21 _ _ _ rfl ?_
      cases hf
      exact And.intro (fun _ => Or.inl rfl) (And.intro rfl rfl)
    · rw [if_neg hc23] at hf
      refine hG.1 2 21 kb_94_21 _ _ _ rfl ?_
      cases hf
      exact And.intro (fun _ => Or.inr rfl) (And.intro rfl rfl)
def f_101_2s (N : Nat) (v0 : Nat) (v1 : Nat) (s : Int32 × pb_HP) : Option ((Int32 × pb_HP) ⊕ (pb_HP)) :=
  if 2 ≤ s.1 then (some (.inr s.2)) else (if pb_is s.2 v0 7 then ((pb_R s.2 v0 0).bind fun q2 => (if pb_ar s.2 q2 15 s.1 then ((pb_R s.2 q2 s.1.toNatClampNeg).bind fun q4 => (if pb_is s.2 v1 7 then ((pb_R s.2 v1 0).bind fun q6 => (if pb_ar s.2 q6 15 s.1 then ((pb_R s.2 q6 s.1.toNatClampNeg).bind fun q8 => (if pb_is s.2 q4 0 then ((f_2 s.2 q4 q8).bind fun h11 => (if pb_is h11 v0 7 then ((pb_R h11 v0 1).bind fun q13 => (if pb_ar h11 q13 16 s.1 then ((pb_R h11 q13 s.1.toNatClampNeg).bind fun q15 => (if pb_is h11 v1 7 then ((pb_R h11 v1 1).bind fun q17 => (if pb_ar h11 q17 16 s.1 then ((pb_R h11 q17 s.1.toNatClampNeg).bind fun q19 => (if pb_is h11 q15 4 then ((f_73 h11 q15 q19).bind fun h22 => (if pb_is h22 v0 7 then ((pb_R h22 v0 2).bind fun q24 => (if pb_ar h22 q24 16 s.1 then ((pb_R h22 q24 s.1.toNatClampNeg).bind fun q26 => (if pb_is h22 v1 7 then ((pb_R h22 v1 2).bind fun q28 => (if pb_ar h22 q28 16 s.1 then ((pb_R h22 q28 s.1.toNatClampNeg).bind fun q30 => (if pb_is h22 q26 4 then ((f_73 h22 q26 q30).bind fun h33 => (some (.inl ((s.1 + 1, h33))))) else none)) else none)) else none)) else none)) else none)) else none)) else none)) else none)) else none)) else none)) else none)) else none)) else none)) else none)) else none)
/-- Told.take -/
def f_101 (N : Nat) (h : pb_HP) (v0 : Nat) (v1 : Nat) : Option (pb_HP) :=
  (pb_wl (f_101_2s N v0 v1) N ((0, h))).bind fun e35 => (if pb_is e35 v1 7 then ((pb_R e35 v1 3).bind fun q37 => (if pb_is e35 v0 7 then ((pb_R e35 v0 3).bind fun q39 => (if pb_is e35 q37 12 then (if pb_is e35 q39 12 then (if ((0 : Int32)).toNatClampNeg + ((3 : Int32)).toNatClampNeg ≤ (pb_SH q37).2 then (if ((0 : Int32)).toNatClampNeg + ((3 : Int32)).toNatClampNeg ≤ (pb_SH q39).2 then (pb_hb (pb_pW e35 q39 (va_cpy (pb_I e35 q37) (pb_I e35 q39) ((0 : Int32)).toNatClampNeg ((0 : Int32)).toNatClampNeg ((3 : Int32)).toNatClampNeg)) fun h44 => ((pb_R e35 v1 4).bind fun q51 => ((pb_R e35 v0 4).bind fun q53 => (if pb_is e35 q51 13 then (if pb_is e35 q53 13 then (if ((0 : Int32)).toNatClampNeg + ((600 : Int32)).toNatClampNeg ≤ (pb_SH q51).2 then (if ((0 : Int32)).toNatClampNeg + ((600 : Int32)).toNatClampNeg ≤ (pb_SH q53).2 then (if pb_bytB (pb_I h44 q51) ((0 : Int32)).toNatClampNeg ((600 : Int32)).toNatClampNeg = true then (pb_hb (pb_pW h44 q53 (va_cpy (pb_I h44 q51) (pb_I h44 q53) ((0 : Int32)).toNatClampNeg ((0 : Int32)).toNatClampNeg ((600 : Int32)).toNatClampNeg)) fun h62 => (pb_hb (pb_pI (pb_pI (pb_pI h62 v0 5 (pb_I h62 v1 5)) v0 6 (pb_I (pb_pI h62 v0 5 (pb_I h62 v1 5)) v1 6)) v0 7 (pb_I (pb_pI (pb_pI h62 v0 5 (pb_I h62 v1 5)) v0 6 (pb_I (pb_pI h62 v0 5 (pb_I h62 v1 5)) v1 6)) v1 7)) fun h73 => (some h73))) else none) else none) else none) else none) else none)))) else none) else none) else none) else none)) else none)) else none)
set_option maxRecDepth 4000 in
theorem l_101 {xs : List Int32} {d : Nat} {N : Nat} {h : pb_HP} {v0 : Nat} {v1 : Nat} {hE : pb_HP} (hf : f_101 N h v0 v1 = some hE) : pb_AR xs (d + 2) 101 h [.ref v0, .ref v1] none hE := by
  intro G hG
  have hc_ : pb_CODE 101 = kc_101 := rfl
  rw [hc_] at hG
  have hl_2 : ∀ (v0 : Nat) (v1 : Nat) (n_ : Nat) (s : Int32 × pb_HP) (e : pb_HP), pb_wl (f_101_2s N v0 v1) n_ s = some e → G 58 [(0, .ref v0), (1, .ref v1)] [] e → G 2 [(0, .ref v0), (1, .ref v1), (2, .int s.1)] [] s.2 := by
    intro v0 v1
    refine pb_wl_ind (I := fun (s : Int32 × pb_HP) => G 2 [(0, .ref v0), (1, .ref v1), (2, .int s.1)] [] s.2) (K := fun (e : pb_HP) => G 58 [(0, .ref v0), (1, .ref v1)] [] e) (fun s x hf hk => ?_)
    unfold f_101_2s at hf
    refine hG.1 1 2 kb_101_2 _ _ _ rfl ?_
    refine And.intro (fun (hc34 : 2 ≤ s.1) => ?_) (fun (hc34 : ¬ (2 ≤ s.1)) => ?_)
    · rw [if_pos hc34] at hf
      cases hf
      exact hG.2 58 _ [0, 1] _ _ _ rfl hk
    · rw [if_neg hc34] at hf
      obtain ⟨hg1, hf⟩ := pb_gd hf
      obtain ⟨q2, eq2, hf⟩ := Option.bind_eq_some_iff.mp hf
      obtain ⟨hg3, hf⟩ := pb_gd hf
      obtain ⟨q4, eq4, hf⟩ := Option.bind_eq_some_iff.mp hf
      obtain ⟨hg5, hf⟩ := pb_gd hf
      obtain ⟨q6, eq6, hf⟩ := Option.bind_eq_some_iff.mp hf
      obtain ⟨hg7, hf⟩ := pb_gd hf
      obtain ⟨q8, eq8, hf⟩ := Option.bind_eq_some_iff.mp hf
      obtain ⟨hg9, hf⟩ := pb_gd hf
      refine And.intro hg1 (Exists.intro q2 (And.intro eq2 (And.intro (And.intro (by decide) (by decide)) (And.intro hg3 (Exists.intro q4 (And.intro eq4 (And.intro hg5 (Exists.intro q6 (And.intro eq6 (And.intro (And.intro (by decide) (by decide)) (And.intro hg7 (Exists.intro q8 (And.intro eq8 (?_))))))))))))))
      obtain ⟨h11, cr10, hf⟩ := Option.bind_eq_some_iff.mp hf
      refine And.intro hg9 (And.intro (Nat.le_of_ble_eq_true rfl) (And.intro (Nat.le_of_ble_eq_true rfl) (Exists.intro none (Exists.intro _ (And.intro (l_2 cr10) (?_))))))
      obtain ⟨hg12, hf⟩ := pb_gd hf
      obtain ⟨q13, eq13, hf⟩ := Option.bind_eq_some_iff.mp hf
      obtain ⟨hg14, hf⟩ := pb_gd hf
      obtain ⟨q15, eq15, hf⟩ := Option.bind_eq_some_iff.mp hf
      obtain ⟨hg16, hf⟩ := pb_gd hf
      obtain ⟨q17, eq17, hf⟩ := Option.bind_eq_some_iff.mp hf
      obtain ⟨hg18, hf⟩ := pb_gd hf
      obtain ⟨q19, eq19, hf⟩ := Option.bind_eq_some_iff.mp hf
      obtain ⟨hg20, hf⟩ := pb_gd hf
      refine And.intro hg12 (Exists.intro q13 (And.intro eq13 (And.intro (And.intro (by decide) (by decide)) (And.intro hg14 (Exists.intro q15 (And.intro eq15 (And.intro hg16 (Exists.intro q17 (And.intro eq17 (And.intro (And.intro (by decide) (by decide)) (And.intro hg18 (Exists.intro q19 (And.intro eq19 (?_))))))))))))))
      obtain ⟨h22, cr21, hf⟩ := Option.bind_eq_some_iff.mp hf
      refine And.intro hg20 (And.intro (Nat.le_of_ble_eq_true rfl) (And.intro (Nat.le_of_ble_eq_true rfl) (Exists.intro none (Exists.intro _ (And.intro (l_73 cr21) (?_))))))
      obtain ⟨hg23, hf⟩ := pb_gd hf
      obtain ⟨q24, eq24, hf⟩ := Option.bind_eq_some_iff.mp hf
      obtain ⟨hg25, hf⟩ := pb_gd hf
      obtain ⟨q26, eq26, hf⟩ := Option.bind_eq_some_iff.mp hf
      obtain ⟨hg27, hf⟩ := pb_gd hf
      obtain ⟨q28, eq28, hf⟩ := Option.bind_eq_some_iff.mp hf
      obtain ⟨hg29, hf⟩ := pb_gd hf
      obtain ⟨q30, eq30, hf⟩ := Option.bind_eq_some_iff.mp hf
      obtain ⟨hg31, hf⟩ := pb_gd hf
      refine And.intro hg23 (Exists.intro q24 (And.intro eq24 (And.intro (And.intro (by decide) (by decide)) (And.intro hg25 (Exists.intro q26 (And.intro eq26 (And.intro hg27 (Exists.intro q28 (And.intro eq28 (And.intro (And.intro (by decide) (by decide)) (And.intro hg29 (Exists.intro q30 (And.intro eq30 (?_))))))))))))))
      obtain ⟨h33, cr32, hf⟩ := Option.bind_eq_some_iff.mp hf
      refine And.intro hg31 (And.intro (Nat.le_of_ble_eq_true rfl) (And.intro (Nat.le_of_ble_eq_true rfl) (Exists.intro none (Exists.intro _ (And.intro (l_73 cr32) (?_))))))
      cases hf
      exact hk
  unfold f_101 at hf
  refine hG.1 0 0 kb_101_0 _ _ _ rfl ?_
  obtain ⟨e35, he_e35, hf⟩ := Option.bind_eq_some_iff.mp hf
  refine hl_2 _ _ _ _ _ he_e35 ?_
  refine hG.1 2 58 kb_101_58 _ _ _ rfl ?_
  obtain ⟨hg36, hf⟩ := pb_gd hf
  obtain ⟨q37, eq37, hf⟩ := Option.bind_eq_some_iff.mp hf
  obtain ⟨hg38, hf⟩ := pb_gd hf
  obtain ⟨q39, eq39, hf⟩ := Option.bind_eq_some_iff.mp hf
  obtain ⟨hg40, hf⟩ := pb_gd hf
  obtain ⟨hg41, hf⟩ := pb_gd hf
  obtain ⟨hg42, hf⟩ := pb_gd hf
  obtain ⟨hg43, hf⟩ := pb_gd hf
  refine And.intro hg36 (Exists.intro q37 (And.intro eq37 (And.intro hg38 (Exists.intro q39 (And.intro eq39 (And.intro (Or.inl rfl) (And.intro hg40 (And.intro hg41 (And.intro (by decide) (And.intro (by decide) (And.intro (by decide) (And.intro hg42 (And.intro hg43 (And.intro (Nat.le_of_ble_eq_true rfl) (?_)))))))))))))))
  refine pb_hset (E := pb_pW e35 q39 (va_cpy (pb_I e35 q37) (pb_I e35 q39) ((0 : Int32)).toNatClampNeg ((0 : Int32)).toNatClampNeg ((3 : Int32)).toNatClampNeg)) rfl (fun h44 eh44 => ?_)
  have hf := pb_hbd hf eh44
  have hg45 : pb_is h44 v1 7 := pb_isx eh44 hg36
  have hg46 : pb_is h44 v0 7 := pb_isx eh44 hg38
  have hg47 : pb_is h44 q37 12 := pb_isx eh44 hg40
  have hg48 : pb_is h44 q39 12 := pb_isx eh44 hg41
  have eq49 : pb_R h44 v1 3 = some q37 := pb_Rx eh44 eq37
  have eq50 : pb_R h44 v0 3 = some q39 := pb_Rx eh44 eq39
  obtain ⟨q51, eq51, hf⟩ := Option.bind_eq_some_iff.mp hf
  have eq52 : pb_R h44 v1 4 = some q51 := pb_Rx eh44 eq51
  obtain ⟨q53, eq53, hf⟩ := Option.bind_eq_some_iff.mp hf
  have eq54 : pb_R h44 v0 4 = some q53 := pb_Rx eh44 eq53
  obtain ⟨hg55, hf⟩ := pb_gd hf
  have hg56 : pb_is h44 q51 13 := pb_isx eh44 hg55
  obtain ⟨hg57, hf⟩ := pb_gd hf
  have hg58 : pb_is h44 q53 13 := pb_isx eh44 hg57
  obtain ⟨hg59, hf⟩ := pb_gd hf
  obtain ⟨hg60, hf⟩ := pb_gd hf
  obtain ⟨hg61, hf⟩ := pb_gd hf
  refine And.intro hg45 (Exists.intro q51 (And.intro eq52 (And.intro hg46 (Exists.intro q53 (And.intro eq54 (And.intro (Or.inr (And.intro rfl (pb_bytB_of hg61))) (And.intro hg56 (And.intro hg58 (And.intro (by decide) (And.intro (by decide) (And.intro (by decide) (And.intro hg59 (And.intro hg60 (And.intro (Nat.le_of_ble_eq_true rfl) (?_)))))))))))))))
  refine pb_hset (E := pb_pW h44 q53 (va_cpy (pb_I h44 q51) (pb_I h44 q53) ((0 : Int32)).toNatClampNeg ((0 : Int32)).toNatClampNeg ((600 : Int32)).toNatClampNeg)) rfl (fun h62 eh62 => ?_)
  have hf := pb_hbd hf eh62
  have hg63 : pb_is h62 v1 7 := pb_isx eh62 hg45
  have hg64 : pb_is h62 v0 7 := pb_isx eh62 hg46
  have hg65 : pb_is h62 q37 12 := pb_isx eh62 hg47
  have hg66 : pb_is h62 q39 12 := pb_isx eh62 hg48
  have hg67 : pb_is h62 q51 13 := pb_isx eh62 hg56
  have hg68 : pb_is h62 q53 13 := pb_isx eh62 hg58
  have eq69 : pb_R h62 v1 3 = some q37 := pb_Rx eh62 eq49
  have eq70 : pb_R h62 v0 3 = some q39 := pb_Rx eh62 eq50
  have eq71 : pb_R h62 v1 4 = some q51 := pb_Rx eh62 eq52
  have eq72 : pb_R h62 v0 4 = some q53 := pb_Rx eh62 eq54
  refine And.intro hg63 (And.intro hg64 (And.intro hg63 (And.intro hg64 (And.intro hg63 (And.intro hg64 (?_))))))
  refine pb_hset (E := pb_pI (pb_pI (pb_pI h62 v0 5 (pb_I h62 v1 5)) v0 6 (pb_I (pb_pI h62 v0 5 (pb_I h62 v1 5)) v1 6)) v0 7 (pb_I (pb_pI (pb_pI h62 v0 5 (pb_I h62 v1 5)) v0 6 (pb_I (pb_pI h62 v0 5 (pb_I h62 v1 5)) v1 6)) v1 7)) rfl (fun h73 eh73 => ?_)
  have hf := pb_hbd hf eh73
  have hg74 : pb_is h73 v1 7 := pb_isx eh73 hg63
  have hg75 : pb_is h73 v0 7 := pb_isx eh73 hg64
  have hg76 : pb_is h73 q37 12 := pb_isx eh73 hg65
  have hg77 : pb_is h73 q39 12 := pb_isx eh73 hg66
  have hg78 : pb_is h73 q51 13 := pb_isx eh73 hg67
  have hg79 : pb_is h73 q53 13 := pb_isx eh73 hg68
  have eq80 : pb_R h73 v1 3 = some q37 := pb_Rx eh73 eq69
  have eq81 : pb_R h73 v0 3 = some q39 := pb_Rx eh73 eq70
  have eq82 : pb_R h73 v1 4 = some q51 := pb_Rx eh73 eq71
  have eq83 : pb_R h73 v0 4 = some q53 := pb_Rx eh73 eq72
  cases hf
  exact And.intro rfl rfl
/-- Told.placeFor -/
def f_102 (h : pb_HP) (v0 : Nat) (v1 : Int32) (v2 : Int32) : Option (Int32) :=
  if v1 < 0 then (some ((-1))) else (if v1 < 3 then (if ¬ v2 = ((-1)) then (if pb_is h v0 7 then ((f_103 h v0 v1 v2).bind fun r2 => (if r2 = 0 then (some ((-1))) else (some v2))) else none) else (if pb_is h v0 7 then ((pb_R h v0 3).bind fun q5 => (if pb_ar h q5 12 v1 then (if 2 ≤ (pb_I h q5 v1.toNatClampNeg) then (some ((-1))) else (some (pb_I h q5 v1.toNatClampNeg))) else none)) else none)) else (some ((-1))))
set_option maxRecDepth 4000 in
theorem l_102 {xs : List Int32} {d : Nat} {h : pb_HP} {v0 : Nat} {v1 : Int32} {v2 : Int32} {r : Int32} (hf : f_102 h v0 v1 v2 = some r) : pb_AR xs (d + 2) 102 h [.ref v0, .int v1, .int v2] (some (.int r)) h := by
  intro G hG
  have hc_ : pb_CODE 102 = kc_102 := rfl
  rw [hc_] at hG
  unfold f_102 at hf
  refine hG.1 0 0 kb_102_0 _ _ _ rfl ?_
  refine And.intro (fun (hc10 : v1 < 0) => ?_) (fun (hc10 : ¬ (v1 < 0)) => ?_)
  · rw [if_pos hc10] at hf
    refine hG.1 1 9 kb_102_9 _ _ _ rfl ?_
    cases hf
    exact And.intro (fun z_ => absurd z_ (by decide)) (And.intro rfl rfl)
  · rw [if_neg hc10] at hf
    refine And.intro (fun (hc9 : v1 < 3) => ?_) (fun (hc9 : ¬ (v1 < 3)) => ?_)
    · rw [if_pos hc9] at hf
      refine hG.1 2 11 kb_102_11 _ _ _ rfl ?_
      refine And.intro (fun (hc8 : ¬ v2 = ((-1))) => ?_) (fun (hc8 : ¬ (¬ v2 = ((-1)))) => ?_)
      · rw [if_pos hc8] at hf
        refine hG.1 5 37 kb_102_37 _ _ _ rfl ?_
        obtain ⟨hg1, hf⟩ := pb_gd hf
        obtain ⟨r2, cr2, hf⟩ := Option.bind_eq_some_iff.mp hf
        refine And.intro hg1 (And.intro (Nat.le_of_ble_eq_true rfl) (And.intro (Nat.le_of_ble_eq_true rfl) (Exists.intro (some (.int r2)) (Exists.intro _ (And.intro (l_103 cr2) (?_))))))
        refine And.intro (fun (hc3 : r2 = 0) => ?_) (fun (hc3 : ¬ (r2 = 0)) => ?_)
        · rw [if_pos hc3] at hf
          refine hG.1 6 50 kb_102_50 _ _ _ rfl ?_
          refine hG.1 7 51 kb_102_51 _ _ _ rfl ?_
          cases hf
          exact And.intro (fun z_ => absurd z_ (by decide)) (And.intro rfl rfl)
        · rw [if_neg hc3] at hf
          refine hG.1 7 51 kb_102_51 _ _ _ rfl ?_
          cases hf
          exact And.intro (fun z_ => absurd z_ (by decide)) (And.intro rfl rfl)
      · rw [if_neg hc8] at hf
        obtain ⟨hg4, hf⟩ := pb_gd hf
        obtain ⟨q5, eq5, hf⟩ := Option.bind_eq_some_iff.mp hf
        obtain ⟨hg6, hf⟩ := pb_gd hf
        refine And.intro hg4 (Exists.intro q5 (And.intro eq5 (And.intro hg6 (?_))))
        refine And.intro (fun (hc7 : 2 ≤ (pb_I h q5 v1.toNatClampNeg)) => ?_) (fun (hc7 : ¬ (2 ≤ (pb_I h q5 v1.toNatClampNeg))) => ?_)
        · rw [if_pos hc7] at hf
          refine hG.1 3 35 kb_102_35 _ _ _ rfl ?_
          refine hG.1 4 36 kb_102_36 _ _ _ rfl ?_
          cases hf
          exact And.intro (fun z_ => absurd z_ (by decide)) (And.intro rfl rfl)
        · rw [if_neg hc7] at hf
          refine And.intro hg4 (Exists.intro q5 (And.intro eq5 (And.intro hg6 (?_))))
          refine hG.1 4 36 kb_102_36 _ _ _ rfl ?_
          cases hf
          exact And.intro (fun z_ => absurd z_ (by decide)) (And.intro rfl rfl)
    · rw [if_neg hc9] at hf
      refine hG.1 1 9 kb_102_9 _ _ _ rfl ?_
      cases hf
      exact And.intro (fun z_ => absurd z_ (by decide)) (And.intro rfl rfl)
def f_104_54 (h : pb_HP) (v0 : Nat) (v1 : Int32) (v2 : Int32) : Option (pb_HP) :=
  if pb_is h v0 7 then ((pb_R h v0 3).bind fun q11 => (if pb_ar h q11 12 v1 then (some (pb_pI h q11 v1.toNatClampNeg (if pb_I h q11 v1.toNatClampNeg < v2 + 1 then v2 + 1 else pb_I h q11 v1.toNatClampNeg))) else none)) else none
/-- Told.keep -/
def f_104 (h : pb_HP) (v0 : Nat) (v1 : Int32) (v2 : Int32) (v3 : Nat) : Option (pb_HP) :=
  if ¬ v1 = 0 then (if ¬ v1 = 1 then (if pb_is h v0 7 then ((pb_R h v0 2).bind fun q2 => (if pb_ar h q2 16 v2 then ((pb_R h q2 v2.toNatClampNeg).bind fun q4 => (if pb_is h v3 6 then ((pb_R h v3 2).bind fun q6 => (if pb_is h q4 4 then ((f_73 h q4 q6).bind fun h9 => (f_104_54 h9 v0 v1 v2)) else none)) else none)) else none)) else none) else (if pb_is h v0 7 then ((pb_R h v0 1).bind fun q14 => (if pb_ar h q14 16 v2 then ((pb_R h q14 v2.toNatClampNeg).bind fun q16 => (if pb_is h v3 6 then ((pb_R h v3 1).bind fun q18 => (if pb_is h q16 4 then ((f_73 h q16 q18).bind fun h21 => (f_104_54 h21 v0 v1 v2)) else none)) else none)) else none)) else none)) else (if pb_is h v0 7 then ((pb_R h v0 0).bind fun q24 => (if pb_ar h q24 15 v2 then ((pb_R h q24 v2.toNatClampNeg).bind fun q26 => (if pb_is h v3 6 then ((pb_R h v3 0).bind fun q28 => (if pb_is h q26 0 then ((f_2 h q26 q28).bind fun h31 => (f_104_54 h31 v0 v1 v2)) else none)) else none)) else none)) else none)
set_option maxRecDepth 4000 in
theorem l_104 {xs : List Int32} {d : Nat} {h : pb_HP} {v0 : Nat} {v1 : Int32} {v2 : Int32} {v3 : Nat} {hE : pb_HP} (hf : f_104 h v0 v1 v2 v3 = some hE) : pb_AR xs (d + 2) 104 h [.ref v0, .int v1, .int v2, .ref v3] none hE := by
  intro G hG
  have hc_ : pb_CODE 104 = kc_104 := rfl
  rw [hc_] at hG
  have hj_54 : ∀ (h : pb_HP) (v0 : Nat) (v1 : Int32) (v2 : Int32), f_104_54 h v0 v1 v2 = some hE → G 54 [(0, .ref v0), (1, .int v1), (2, .int v2)] [] h := by
    intro h v0 v1 v2 hf
    unfold f_104_54 at hf
    refine hG.1 3 54 kb_104_54 _ _ _ rfl ?_
    obtain ⟨hg10, hf⟩ := pb_gd hf
    obtain ⟨q11, eq11, hf⟩ := Option.bind_eq_some_iff.mp hf
    obtain ⟨hg12, hf⟩ := pb_gd hf
    refine And.intro hg10 (Exists.intro q11 (And.intro eq11 (And.intro hg10 (Exists.intro q11 (And.intro eq11 (And.intro hg12 (And.intro (Nat.le_of_ble_eq_true rfl) (And.intro hg12 (?_)))))))))
    cases hf
    exact And.intro rfl rfl
  unfold f_104 at hf
  refine hG.1 0 0 kb_104_0 _ _ _ rfl ?_
  refine And.intro (fun (hc32 : ¬ v1 = 0) => ?_) (fun (hc32 : ¬ (¬ v1 = 0)) => ?_)
  · rw [if_pos hc32] at hf
    refine hG.1 1 20 kb_104_20 _ _ _ rfl ?_
    refine And.intro (fun (hc22 : ¬ v1 = 1) => ?_) (fun (hc22 : ¬ (¬ v1 = 1)) => ?_)
    · rw [if_pos hc22] at hf
      refine hG.1 2 41 kb_104_41 _ _ _ rfl ?_
      obtain ⟨hg1, hf⟩ := pb_gd hf
      obtain ⟨q2, eq2, hf⟩ := Option.bind_eq_some_iff.mp hf
      obtain ⟨hg3, hf⟩ := pb_gd hf
      obtain ⟨q4, eq4, hf⟩ := Option.bind_eq_some_iff.mp hf
      obtain ⟨hg5, hf⟩ := pb_gd hf
      obtain ⟨q6, eq6, hf⟩ := Option.bind_eq_some_iff.mp hf
      obtain ⟨hg7, hf⟩ := pb_gd hf
      refine And.intro hg1 (Exists.intro q2 (And.intro eq2 (And.intro (And.intro (by decide) (by decide)) (And.intro hg3 (Exists.intro q4 (And.intro eq4 (And.intro hg5 (Exists.intro q6 (And.intro eq6 (?_))))))))))
      obtain ⟨h9, cr8, hf⟩ := Option.bind_eq_some_iff.mp hf
      refine And.intro hg7 (And.intro (Nat.le_of_ble_eq_true rfl) (And.intro (Nat.le_of_ble_eq_true rfl) (Exists.intro none (Exists.intro _ (And.intro (l_73 cr8) (?_))))))
      refine hG.2 54 _ [0, 1, 2] _ _ _ rfl ?_
      exact hj_54 _ _ _ _ hf
    · rw [if_neg hc22] at hf
      obtain ⟨hg13, hf⟩ := pb_gd hf
      obtain ⟨q14, eq14, hf⟩ := Option.bind_eq_some_iff.mp hf
      obtain ⟨hg15, hf⟩ := pb_gd hf
      obtain ⟨q16, eq16, hf⟩ := Option.bind_eq_some_iff.mp hf
      obtain ⟨hg17, hf⟩ := pb_gd hf
      obtain ⟨q18, eq18, hf⟩ := Option.bind_eq_some_iff.mp hf
      obtain ⟨hg19, hf⟩ := pb_gd hf
      refine And.intro hg13 (Exists.intro q14 (And.intro eq14 (And.intro (And.intro (by decide) (by decide)) (And.intro hg15 (Exists.intro q16 (And.intro eq16 (And.intro hg17 (Exists.intro q18 (And.intro eq18 (?_))))))))))
      obtain ⟨h21, cr20, hf⟩ := Option.bind_eq_some_iff.mp hf
      refine And.intro hg19 (And.intro (Nat.le_of_ble_eq_true rfl) (And.intro (Nat.le_of_ble_eq_true rfl) (Exists.intro none (Exists.intro _ (And.intro (l_73 cr20) (?_))))))
      refine hG.2 54 _ [0, 1, 2] _ _ _ rfl ?_
      exact hj_54 _ _ _ _ hf
  · rw [if_neg hc32] at hf
    obtain ⟨hg23, hf⟩ := pb_gd hf
    obtain ⟨q24, eq24, hf⟩ := Option.bind_eq_some_iff.mp hf
    obtain ⟨hg25, hf⟩ := pb_gd hf
    obtain ⟨q26, eq26, hf⟩ := Option.bind_eq_some_iff.mp hf
    obtain ⟨hg27, hf⟩ := pb_gd hf
    obtain ⟨q28, eq28, hf⟩ := Option.bind_eq_some_iff.mp hf
    obtain ⟨hg29, hf⟩ := pb_gd hf
    refine And.intro hg23 (Exists.intro q24 (And.intro eq24 (And.intro (And.intro (by decide) (by decide)) (And.intro hg25 (Exists.intro q26 (And.intro eq26 (And.intro hg27 (Exists.intro q28 (And.intro eq28 (?_))))))))))
    obtain ⟨h31, cr30, hf⟩ := Option.bind_eq_some_iff.mp hf
    refine And.intro hg29 (And.intro (Nat.le_of_ble_eq_true rfl) (And.intro (Nat.le_of_ble_eq_true rfl) (Exists.intro none (Exists.intro _ (And.intro (l_2 cr30) (?_))))))
    refine hG.2 54 _ [0, 1, 2] _ _ _ rfl ?_
    exact hj_54 _ _ _ _ hf
/-- Told.countyAt -/
def f_105 (h : pb_HP) (v0 : Nat) (v1 : Int32) : Option (Option Nat) :=
  if pb_is h v0 7 then ((f_103 h v0 0 v1).bind fun r2 => (if r2 = 0 then (some none) else ((pb_R h v0 0).bind fun q3 => (if pb_ar h q3 15 v1 then ((pb_R h q3 v1.toNatClampNeg).bind fun q5 => (some ((some q5)))) else none)))) else none
set_option maxRecDepth 4000 in
theorem l_105 {xs : List Int32} {d : Nat} {h : pb_HP} {v0 : Nat} {v1 : Int32} {r : Option Nat} (hf : f_105 h v0 v1 = some r) : pb_AR xs (d + 2) 105 h [.ref v0, .int v1] (some (pb_rv r)) h := by
  intro G hG
  have hc_ : pb_CODE 105 = kc_105 := rfl
  rw [hc_] at hG
  unfold f_105 at hf
  refine hG.1 0 0 kb_105_0 _ _ _ rfl ?_
  obtain ⟨hg1, hf⟩ := pb_gd hf
  obtain ⟨r2, cr2, hf⟩ := Option.bind_eq_some_iff.mp hf
  refine And.intro hg1 (And.intro (Nat.le_of_ble_eq_true rfl) (And.intro (Nat.le_of_ble_eq_true rfl) (Exists.intro (some (.int r2)) (Exists.intro _ (And.intro (l_103 cr2) (?_))))))
  refine And.intro (fun (hc6 : r2 = 0) => ?_) (fun (hc6 : ¬ (r2 = 0)) => ?_)
  · rw [if_pos hc6] at hf
    refine hG.1 1 18 kb_105_18 _ _ _ rfl ?_
    refine hG.1 2 19 kb_105_19 _ _ _ rfl ?_
    cases hf
    exact And.intro rfl rfl
  · rw [if_neg hc6] at hf
    obtain ⟨q3, eq3, hf⟩ := Option.bind_eq_some_iff.mp hf
    obtain ⟨hg4, hf⟩ := pb_gd hf
    obtain ⟨q5, eq5, hf⟩ := Option.bind_eq_some_iff.mp hf
    refine And.intro hg1 (Exists.intro q3 (And.intro eq3 (And.intro (And.intro (by decide) (by decide)) (And.intro hg4 (Exists.intro q5 (And.intro eq5 (?_)))))))
    refine hG.1 2 19 kb_105_19 _ _ _ rfl ?_
    cases hf
    exact And.intro rfl rfl
/-- Told.yearAt -/
def f_106 (h : pb_HP) (v0 : Nat) (v1 : Int32) : Option (Option Nat) :=
  if pb_is h v0 7 then ((f_103 h v0 1 v1).bind fun r2 => (if r2 = 0 then (some none) else ((pb_R h v0 1).bind fun q3 => (if pb_ar h q3 16 v1 then ((pb_R h q3 v1.toNatClampNeg).bind fun q5 => (some ((some q5)))) else none)))) else none
set_option maxRecDepth 4000 in
theorem l_106 {xs : List Int32} {d : Nat} {h : pb_HP} {v0 : Nat} {v1 : Int32} {r : Option Nat} (hf : f_106 h v0 v1 = some r) : pb_AR xs (d + 2) 106 h [.ref v0, .int v1] (some (pb_rv r)) h := by
  intro G hG
  have hc_ : pb_CODE 106 = kc_106 := rfl
  rw [hc_] at hG
  unfold f_106 at hf
  refine hG.1 0 0 kb_106_0 _ _ _ rfl ?_
  obtain ⟨hg1, hf⟩ := pb_gd hf
  obtain ⟨r2, cr2, hf⟩ := Option.bind_eq_some_iff.mp hf
  refine And.intro hg1 (And.intro (Nat.le_of_ble_eq_true rfl) (And.intro (Nat.le_of_ble_eq_true rfl) (Exists.intro (some (.int r2)) (Exists.intro _ (And.intro (l_103 cr2) (?_))))))
  refine And.intro (fun (hc6 : r2 = 0) => ?_) (fun (hc6 : ¬ (r2 = 0)) => ?_)
  · rw [if_pos hc6] at hf
    refine hG.1 1 18 kb_106_18 _ _ _ rfl ?_
    refine hG.1 2 19 kb_106_19 _ _ _ rfl ?_
    cases hf
    exact And.intro rfl rfl
  · rw [if_neg hc6] at hf
    obtain ⟨q3, eq3, hf⟩ := Option.bind_eq_some_iff.mp hf
    obtain ⟨hg4, hf⟩ := pb_gd hf
    obtain ⟨q5, eq5, hf⟩ := Option.bind_eq_some_iff.mp hf
    refine And.intro hg1 (Exists.intro q3 (And.intro eq3 (And.intro (And.intro (by decide) (by decide)) (And.intro hg4 (Exists.intro q5 (And.intro eq5 (?_)))))))
    refine hG.1 2 19 kb_106_19 _ _ _ rfl ?_
    cases hf
    exact And.intro rfl rfl
/-- Told.logAt -/
def f_107 (h : pb_HP) (v0 : Nat) (v1 : Int32) : Option (Option Nat) :=
  if pb_is h v0 7 then ((f_103 h v0 2 v1).bind fun r2 => (if r2 = 0 then (some none) else ((pb_R h v0 2).bind fun q3 => (if pb_ar h q3 16 v1 then ((pb_R h q3 v1.toNatClampNeg).bind fun q5 => (some ((some q5)))) else none)))) else none
set_option maxRecDepth 4000 in
theorem l_107 {xs : List Int32} {d : Nat} {h : pb_HP} {v0 : Nat} {v1 : Int32} {r : Option Nat} (hf : f_107 h v0 v1 = some r) : pb_AR xs (d + 2) 107 h [.ref v0, .int v1] (some (pb_rv r)) h := by
  intro G hG
  have hc_ : pb_CODE 107 = kc_107 := rfl
  rw [hc_] at hG
  unfold f_107 at hf
  refine hG.1 0 0 kb_107_0 _ _ _ rfl ?_
  obtain ⟨hg1, hf⟩ := pb_gd hf
  obtain ⟨r2, cr2, hf⟩ := Option.bind_eq_some_iff.mp hf
  refine And.intro hg1 (And.intro (Nat.le_of_ble_eq_true rfl) (And.intro (Nat.le_of_ble_eq_true rfl) (Exists.intro (some (.int r2)) (Exists.intro _ (And.intro (l_103 cr2) (?_))))))
  refine And.intro (fun (hc6 : r2 = 0) => ?_) (fun (hc6 : ¬ (r2 = 0)) => ?_)
  · rw [if_pos hc6] at hf
    refine hG.1 1 18 kb_107_18 _ _ _ rfl ?_
    refine hG.1 2 19 kb_107_19 _ _ _ rfl ?_
    cases hf
    exact And.intro rfl rfl
  · rw [if_neg hc6] at hf
    obtain ⟨q3, eq3, hf⟩ := Option.bind_eq_some_iff.mp hf
    obtain ⟨hg4, hf⟩ := pb_gd hf
    obtain ⟨q5, eq5, hf⟩ := Option.bind_eq_some_iff.mp hf
    refine And.intro hg1 (Exists.intro q3 (And.intro eq3 (And.intro (And.intro (by decide) (by decide)) (And.intro hg4 (Exists.intro q5 (And.intro eq5 (?_)))))))
    refine hG.1 2 19 kb_107_19 _ _ _ rfl ?_
    cases hf
    exact And.intro rfl rfl
def f_111_10s (N : Nat) (v0 : Nat) (v2 : Int32) (s : Int32 × pb_HP) : Option ((Int32 × pb_HP) ⊕ (pb_HP)) :=
  if pb_is s.2 v0 8 then ((pb_R s.2 v0 0).bind fun q7 => (if pb_is s.2 q7 0 then (if (pb_I s.2 q7 1) ≤ s.1 then (some (.inr s.2)) else ((pb_R s.2 q7 4).bind fun q9 => (if pb_ar s.2 q9 12 s.1 then ((pb_R s.2 q7 5).bind fun q11 => (if pb_ar s.2 q11 12 s.1 then (pb_hb (pb_pI (pb_pI s.2 q9 s.1.toNatClampNeg ((pb_I s.2 q9 s.1.toNatClampNeg) + v2)) q11 s.1.toNatClampNeg (if 0 < (pb_I (pb_pI s.2 q9 s.1.toNatClampNeg ((pb_I s.2 q9 s.1.toNatClampNeg) + v2)) q11 s.1.toNatClampNeg) - v2 then (pb_I (pb_pI s.2 q9 s.1.toNatClampNeg ((pb_I s.2 q9 s.1.toNatClampNeg) + v2)) q11 s.1.toNatClampNeg) - v2 else 0)) fun h13 => (some (.inl ((s.1 + 1, h13))))) else none)) else none))) else none)) else none
/-- Trial.ageBy -/
def f_111 (N : Nat) (h : pb_HP) (v0 : Nat) (v1 : Nat) (v2 : Int32) : Option (pb_HP) :=
  if pb_is h v0 8 then ((pb_R h v0 0).bind fun q2 => (if pb_is h q2 0 then ((f_2 h q2 v1).bind fun h5 => ((pb_wl (f_111_10s N v0 v2) N ((0, h5))).bind fun e22 => (some e22))) else none)) else none
set_option maxRecDepth 4000 in
theorem l_111 {xs : List Int32} {d : Nat} {N : Nat} {h : pb_HP} {v0 : Nat} {v1 : Nat} {v2 : Int32} {hE : pb_HP} (hf : f_111 N h v0 v1 v2 = some hE) : pb_AR xs (d + 2) 111 h [.ref v0, .ref v1, .int v2] none hE := by
  intro G hG
  have hc_ : pb_CODE 111 = kc_111 := rfl
  rw [hc_] at hG
  have hl_10 : ∀ (v0 : Nat) (v2 : Int32) (n_ : Nat) (s : Int32 × pb_HP) (e : pb_HP), pb_wl (f_111_10s N v0 v2) n_ s = some e → G 64 [] [] e → G 10 [(0, .ref v0), (2, .int v2), (3, .int s.1)] [] s.2 := by
    intro v0 v2
    refine pb_wl_ind (I := fun (s : Int32 × pb_HP) => G 10 [(0, .ref v0), (2, .int v2), (3, .int s.1)] [] s.2) (K := fun (e : pb_HP) => G 64 [] [] e) (fun s x hf hk => ?_)
    unfold f_111_10s at hf
    refine hG.1 1 10 kb_111_10 _ _ _ rfl ?_
    obtain ⟨hg6, hf⟩ := pb_gd hf
    obtain ⟨q7, eq7, hf⟩ := Option.bind_eq_some_iff.mp hf
    obtain ⟨hg8, hf⟩ := pb_gd hf
    refine And.intro hg6 (Exists.intro q7 (And.intro eq7 (And.intro hg8 (?_))))
    refine And.intro (fun (hc21 : (pb_I s.2 q7 1) ≤ s.1) => ?_) (fun (hc21 : ¬ ((pb_I s.2 q7 1) ≤ s.1)) => ?_)
    · rw [if_pos hc21] at hf
      cases hf
      exact hG.2 64 _ [] _ _ _ rfl hk
    · rw [if_neg hc21] at hf
      obtain ⟨q9, eq9, hf⟩ := Option.bind_eq_some_iff.mp hf
      obtain ⟨hg10, hf⟩ := pb_gd hf
      obtain ⟨q11, eq11, hf⟩ := Option.bind_eq_some_iff.mp hf
      obtain ⟨hg12, hf⟩ := pb_gd hf
      refine And.intro hg6 (Exists.intro q7 (And.intro eq7 (And.intro hg8 (Exists.intro q9 (And.intro eq9 (And.intro hg10 (And.intro hg10 (And.intro hg6 (Exists.intro q7 (And.intro eq7 (And.intro hg8 (Exists.intro q11 (And.intro eq11 (And.intro hg6 (Exists.intro q7 (And.intro eq7 (And.intro hg8 (Exists.intro q11 (And.intro eq11 (And.intro hg12 (And.intro (Nat.le_of_ble_eq_true rfl) (And.intro hg12 (?_)))))))))))))))))))))))
      refine pb_hset (E := pb_pI (pb_pI s.2 q9 s.1.toNatClampNeg ((pb_I s.2 q9 s.1.toNatClampNeg) + v2)) q11 s.1.toNatClampNeg (if 0 < (pb_I (pb_pI s.2 q9 s.1.toNatClampNeg ((pb_I s.2 q9 s.1.toNatClampNeg) + v2)) q11 s.1.toNatClampNeg) - v2 then (pb_I (pb_pI s.2 q9 s.1.toNatClampNeg ((pb_I s.2 q9 s.1.toNatClampNeg) + v2)) q11 s.1.toNatClampNeg) - v2 else 0)) rfl (fun h13 eh13 => ?_)
      have hf := pb_hbd hf eh13
      have hg14 : pb_is h13 v0 8 := pb_isx eh13 hg6
      have hg15 : pb_is h13 q7 0 := pb_isx eh13 hg8
      have hg16 : pb_ar h13 q9 12 s.1 := pb_arx eh13 hg10
      have hg17 : pb_ar h13 q11 12 s.1 := pb_arx eh13 hg12
      have eq18 : pb_R h13 v0 0 = some q7 := pb_Rx eh13 eq7
      have eq19 : pb_R h13 q7 4 = some q9 := pb_Rx eh13 eq9
      have eq20 : pb_R h13 q7 5 = some q11 := pb_Rx eh13 eq11
      cases hf
      exact hk
  unfold f_111 at hf
  refine hG.1 0 0 kb_111_0 _ _ _ rfl ?_
  obtain ⟨hg1, hf⟩ := pb_gd hf
  obtain ⟨q2, eq2, hf⟩ := Option.bind_eq_some_iff.mp hf
  obtain ⟨hg3, hf⟩ := pb_gd hf
  refine And.intro hg1 (Exists.intro q2 (And.intro eq2 (?_)))
  obtain ⟨h5, cr4, hf⟩ := Option.bind_eq_some_iff.mp hf
  refine And.intro hg3 (And.intro (Nat.le_of_ble_eq_true rfl) (And.intro (Nat.le_of_ble_eq_true rfl) (Exists.intro none (Exists.intro _ (And.intro (l_2 cr4) (?_))))))
  obtain ⟨e22, he_e22, hf⟩ := Option.bind_eq_some_iff.mp hf
  refine hG.2 10 _ [0, 2, 3] _ _ _ rfl ?_
  refine hl_10 _ _ _ _ _ he_e22 ?_
  refine hG.1 2 64 kb_111_64 _ _ _ rfl ?_
  cases hf
  exact And.intro rfl rfl
/-- PointedBench.feed -/
def f_124 (N : Nat) (h : pb_HP) (v0 : Nat) (v1 : Int32) (v2 : Int32) (v3 : Int32) (v4 : Int32) (v5 : Int32) : Option (Int32 × pb_HP) :=
  if pb_is h v0 10 then ((pb_R h v0 0).bind fun q2 => (if pb_is h q2 7 then (if ((pb_I h q2 5) + 20) ≤ 600 then ((f_100 N h q2 v1).bind fun h5 => (if pb_is h5 v0 10 then ((pb_R h5 v0 0).bind fun q7 => (if pb_is h5 q7 7 then ((f_100 N h5 q7 v2).bind fun h10 => (if pb_is h10 v0 10 then ((pb_R h10 v0 0).bind fun q12 => (if pb_is h10 q12 7 then ((f_100 N h10 q12 v3).bind fun h15 => (if pb_is h15 v0 10 then ((pb_R h15 v0 0).bind fun q17 => (if pb_is h15 q17 7 then ((f_100 N h15 q17 v4).bind fun h20 => (if pb_is h20 v0 10 then ((pb_R h20 v0 0).bind fun q22 => (if pb_is h20 q22 7 then ((f_100 N h20 q22 v5).bind fun h25 => (if pb_is h25 v0 10 then ((pb_R h25 v0 0).bind fun q27 => (if pb_is h25 q27 7 then (some ((pb_I h25 q27 5, h25))) else none)) else none)) else none)) else none)) else none)) else none)) else none)) else none)) else none)) else none)) else (some (((-1), h)))) else none)) else none
set_option maxRecDepth 4000 in
theorem l_124 {xs : List Int32} {d : Nat} {N : Nat} {h : pb_HP} {v0 : Nat} {v1 : Int32} {v2 : Int32} {v3 : Int32} {v4 : Int32} {v5 : Int32} {r : Int32} {hE : pb_HP} (hf : f_124 N h v0 v1 v2 v3 v4 v5 = some ((r, hE))) : pb_AR xs (d + 2) 124 h [.ref v0, .int v1, .int v2, .int v3, .int v4, .int v5] (some (.int r)) hE := by
  intro G hG
  have hc_ : pb_CODE 124 = kc_124 := rfl
  rw [hc_] at hG
  unfold f_124 at hf
  refine hG.1 0 0 kb_124_0 _ _ _ rfl ?_
  obtain ⟨hg1, hf⟩ := pb_gd hf
  obtain ⟨q2, eq2, hf⟩ := Option.bind_eq_some_iff.mp hf
  obtain ⟨hg3, hf⟩ := pb_gd hf
  refine And.intro hg1 (Exists.intro q2 (And.intro eq2 (And.intro hg3 (?_))))
  refine And.intro (fun (hc29 : ((pb_I h q2 5) + 20) ≤ 600) => ?_) (fun (hc29 : ¬ (((pb_I h q2 5) + 20) ≤ 600)) => ?_)
  · rw [if_pos hc29] at hf
    refine hG.1 1 18 kb_124_18 _ _ _ rfl ?_
    refine And.intro hg1 (Exists.intro q2 (And.intro eq2 (?_)))
    obtain ⟨h5, cr4, hf⟩ := Option.bind_eq_some_iff.mp hf
    refine And.intro hg3 (And.intro (Nat.le_of_ble_eq_true rfl) (And.intro (Nat.le_of_ble_eq_true rfl) (Exists.intro none (Exists.intro _ (And.intro (l_100 cr4) (?_))))))
    obtain ⟨hg6, hf⟩ := pb_gd hf
    obtain ⟨q7, eq7, hf⟩ := Option.bind_eq_some_iff.mp hf
    obtain ⟨hg8, hf⟩ := pb_gd hf
    refine And.intro hg6 (Exists.intro q7 (And.intro eq7 (?_)))
    obtain ⟨h10, cr9, hf⟩ := Option.bind_eq_some_iff.mp hf
    refine And.intro hg8 (And.intro (Nat.le_of_ble_eq_true rfl) (And.intro (Nat.le_of_ble_eq_true rfl) (Exists.intro none (Exists.intro _ (And.intro (l_100 cr9) (?_))))))
    obtain ⟨hg11, hf⟩ := pb_gd hf
    obtain ⟨q12, eq12, hf⟩ := Option.bind_eq_some_iff.mp hf
    obtain ⟨hg13, hf⟩ := pb_gd hf
    refine And.intro hg11 (Exists.intro q12 (And.intro eq12 (?_)))
    obtain ⟨h15, cr14, hf⟩ := Option.bind_eq_some_iff.mp hf
    refine And.intro hg13 (And.intro (Nat.le_of_ble_eq_true rfl) (And.intro (Nat.le_of_ble_eq_true rfl) (Exists.intro none (Exists.intro _ (And.intro (l_100 cr14) (?_))))))
    obtain ⟨hg16, hf⟩ := pb_gd hf
    obtain ⟨q17, eq17, hf⟩ := Option.bind_eq_some_iff.mp hf
    obtain ⟨hg18, hf⟩ := pb_gd hf
    refine And.intro hg16 (Exists.intro q17 (And.intro eq17 (?_)))
    obtain ⟨h20, cr19, hf⟩ := Option.bind_eq_some_iff.mp hf
    refine And.intro hg18 (And.intro (Nat.le_of_ble_eq_true rfl) (And.intro (Nat.le_of_ble_eq_true rfl) (Exists.intro none (Exists.intro _ (And.intro (l_100 cr19) (?_))))))
    obtain ⟨hg21, hf⟩ := pb_gd hf
    obtain ⟨q22, eq22, hf⟩ := Option.bind_eq_some_iff.mp hf
    obtain ⟨hg23, hf⟩ := pb_gd hf
    refine And.intro hg21 (Exists.intro q22 (And.intro eq22 (?_)))
    obtain ⟨h25, cr24, hf⟩ := Option.bind_eq_some_iff.mp hf
    refine And.intro hg23 (And.intro (Nat.le_of_ble_eq_true rfl) (And.intro (Nat.le_of_ble_eq_true rfl) (Exists.intro none (Exists.intro _ (And.intro (l_100 cr24) (?_))))))
    obtain ⟨hg26, hf⟩ := pb_gd hf
    obtain ⟨q27, eq27, hf⟩ := Option.bind_eq_some_iff.mp hf
    obtain ⟨hg28, hf⟩ := pb_gd hf
    refine And.intro hg26 (Exists.intro q27 (And.intro eq27 (And.intro hg28 (?_))))
    cases hf
    exact And.intro (fun z_ => absurd z_ (by decide)) (And.intro rfl rfl)
  · rw [if_neg hc29] at hf
    cases hf
    exact And.intro (fun z_ => absurd z_ (by decide)) (And.intro rfl rfl)
/-- PointedBench.manyOrWhich -/
def f_164 (v0 : Int32) (v1 : Int32) : Option (Int32) :=
  if v0 = ((-1)) then (some v0) else (if v1 = 0 then ((f_305 v0).bind fun r1 => (some r1)) else (some v0))
set_option maxRecDepth 4000 in
theorem l_164 {xs : List Int32} {d : Nat} {h : pb_HP} {v0 : Int32} {v1 : Int32} {r : Int32} (hf : f_164 v0 v1 = some r) : pb_AR xs (d + 2) 164 h [.int v0, .int v1] (some (.int r)) h := by
  intro G hG
  have hc_ : pb_CODE 164 = kc_164 := rfl
  rw [hc_] at hG
  unfold f_164 at hf
  refine hG.1 0 0 kb_164_0 _ _ _ rfl ?_
  refine And.intro (fun (hc3 : v0 = ((-1))) => ?_) (fun (hc3 : ¬ (v0 = ((-1)))) => ?_)
  · rw [if_pos hc3] at hf
    refine hG.1 1 9 kb_164_9 _ _ _ rfl ?_
    refine hG.1 3 17 kb_164_17 _ _ _ rfl ?_
    cases hf
    exact And.intro (fun z_ => absurd z_ (by decide)) (And.intro rfl rfl)
  · rw [if_neg hc3] at hf
    refine And.intro (fun (hc2 : v1 = 0) => ?_) (fun (hc2 : ¬ (v1 = 0)) => ?_)
    · rw [if_pos hc2] at hf
      refine hG.1 2 13 kb_164_13 _ _ _ rfl ?_
      obtain ⟨r1, cr1, hf⟩ := Option.bind_eq_some_iff.mp hf
      refine And.intro (Nat.le_of_ble_eq_true rfl) (And.intro (Nat.le_of_ble_eq_true rfl) (And.intro (Nat.le_of_ble_eq_true rfl) (Exists.intro (some (.int r1)) (Exists.intro _ (And.intro (l_305 cr1) (?_))))))
      refine hG.1 3 17 kb_164_17 _ _ _ rfl ?_
      cases hf
      exact And.intro (fun z_ => absurd z_ (by decide)) (And.intro rfl rfl)
    · rw [if_neg hc2] at hf
      refine hG.1 1 9 kb_164_9 _ _ _ rfl ?_
      refine hG.1 3 17 kb_164_17 _ _ _ rfl ?_
      cases hf
      exact And.intro (fun z_ => absurd z_ (by decide)) (And.intro rfl rfl)
def f_172_4s (N : Nat) (v0 : Int32) (s : Int32 × Int32) : Option ((Int32 × Int32) ⊕ (Int32)) :=
  if 6 ≤ s.2 then (some (.inr s.1)) else ((f_169 v0 s.2).bind fun r1 => (if r1 = 0 then (some (.inl ((s.1 + 0, s.2 + 1)))) else (some (.inl ((s.1 + 1, s.2 + 1))))))
/-- PointedBenchModel.ones -/
def f_172 (N : Nat) (v0 : Int32) : Option (Int32) :=
  (pb_wl (f_172_4s N v0) N ((0, 0))).bind fun e4 => (some e4)
set_option maxRecDepth 4000 in
theorem l_172 {xs : List Int32} {d : Nat} {N : Nat} {h : pb_HP} {v0 : Int32} {r : Int32} (hf : f_172 N v0 = some r) : pb_AR xs (d + 2) 172 h [.int v0] (some (.int r)) h := by
  intro G hG
  have hc_ : pb_CODE 172 = kc_172 := rfl
  rw [hc_] at hG
  have hl_4 : ∀ (v0 : Int32) (n_ : Nat) (s : Int32 × Int32) (e : Int32), pb_wl (f_172_4s N v0) n_ s = some e → G 32 [(1, .int e)] [] h → G 4 [(0, .int v0), (1, .int s.1), (2, .int s.2)] [] h := by
    intro v0
    refine pb_wl_ind (I := fun (s : Int32 × Int32) => G 4 [(0, .int v0), (1, .int s.1), (2, .int s.2)] [] h) (K := fun (e : Int32) => G 32 [(1, .int e)] [] h) (fun s x hf hk => ?_)
    unfold f_172_4s at hf
    refine hG.1 1 4 kb_172_4 _ _ _ rfl ?_
    refine And.intro (fun (hc3 : 6 ≤ s.2) => ?_) (fun (hc3 : ¬ (6 ≤ s.2)) => ?_)
    · rw [if_pos hc3] at hf
      cases hf
      exact hG.2 32 _ [1] _ _ _ rfl hk
    · rw [if_neg hc3] at hf
      obtain ⟨r1, cr1, hf⟩ := Option.bind_eq_some_iff.mp hf
      refine And.intro (Nat.le_of_ble_eq_true rfl) (And.intro (Nat.le_of_ble_eq_true rfl) (And.intro (Nat.le_of_ble_eq_true rfl) (Exists.intro (some (.int r1)) (Exists.intro _ (And.intro (l_169 cr1) (?_))))))
      refine And.intro (fun (hc2 : r1 = 0) => ?_) (fun (hc2 : ¬ (r1 = 0)) => ?_)
      · rw [if_pos hc2] at hf
        refine hG.1 2 23 kb_172_23 _ _ _ rfl ?_
        refine hG.1 3 24 kb_172_24 _ _ _ rfl ?_
        cases hf
        exact hk
      · rw [if_neg hc2] at hf
        refine hG.1 3 24 kb_172_24 _ _ _ rfl ?_
        cases hf
        exact hk
  unfold f_172 at hf
  refine hG.1 0 0 kb_172_0 _ _ _ rfl ?_
  obtain ⟨e4, he_e4, hf⟩ := Option.bind_eq_some_iff.mp hf
  refine hl_4 _ _ _ _ he_e4 ?_
  refine hG.1 4 32 kb_172_32 _ _ _ rfl ?_
  cases hf
  exact And.intro (fun z_ => absurd z_ (by decide)) (And.intro rfl rfl)
def f_174_2s (N : Nat) (v0 : Nat) (v1 : Int32) (v2 : Int32) (s : Int32 × pb_HP) : Option ((Int32 × pb_HP) ⊕ (pb_HP)) :=
  if 600 ≤ s.1 then (some (.inr s.2)) else (if pb_is s.2 v0 11 then ((pb_R s.2 v0 1).bind fun q2 => (if pb_ar s.2 q2 13 ((600 * v1) + s.1) then (if pb_ar s.2 q2 13 ((600 * v2) + s.1) then (some (.inl ((s.1 + 1, pb_pI s.2 q2 ((600 * v2) + s.1).toNatClampNeg (Int32.toInt8 (pb_I s.2 q2 ((600 * v1) + s.1).toNatClampNeg)).toInt32)))) else none) else none)) else none)
/-- PointedBenchModel.copyAll -/
def f_174 (N : Nat) (h : pb_HP) (v0 : Nat) (v1 : Int32) (v2 : Int32) : Option (pb_HP) :=
  (pb_wl (f_174_2s N v0 v1 v2) N ((0, h))).bind fun e6 => (if pb_is e6 v0 11 then ((pb_R e6 v0 2).bind fun q8 => ((f_173 N e6 q8 1 v1 v2).bind fun h10 => (if pb_is h10 v0 11 then ((pb_R h10 v0 3).bind fun q12 => ((f_173 N h10 q12 1 v1 v2).bind fun h14 => (if pb_is h14 v0 11 then ((pb_R h14 v0 4).bind fun q16 => ((f_173 N h14 q16 1 v1 v2).bind fun h18 => (if pb_is h18 v0 11 then ((pb_R h18 v0 5).bind fun q20 => ((f_173 N h18 q20 3 v1 v2).bind fun h22 => (if pb_is h22 v0 11 then ((pb_R h22 v0 6).bind fun q24 => ((f_173 N h22 q24 136 v1 v2).bind fun h26 => (if pb_is h26 v0 11 then ((pb_R h26 v0 7).bind fun q28 => ((f_173 N h26 q28 322 v1 v2).bind fun h30 => (if pb_is h30 v0 11 then ((pb_R h30 v0 8).bind fun q32 => ((f_173 N h30 q32 50 v1 v2).bind fun h34 => (some h34))) else none))) else none))) else none))) else none))) else none))) else none))) else none)
set_option maxRecDepth 4000 in
theorem l_174 {xs : List Int32} {d : Nat} {N : Nat} {h : pb_HP} {v0 : Nat} {v1 : Int32} {v2 : Int32} {hE : pb_HP} (hf : f_174 N h v0 v1 v2 = some hE) : pb_AR xs (d + 2) 174 h [.ref v0, .int v1, .int v2] none hE := by
  intro G hG
  have hc_ : pb_CODE 174 = kc_174 := rfl
  rw [hc_] at hG
  have hl_2 : ∀ (v0 : Nat) (v1 : Int32) (v2 : Int32) (n_ : Nat) (s : Int32 × pb_HP) (e : pb_HP), pb_wl (f_174_2s N v0 v1 v2) n_ s = some e → G 39 [(0, .ref v0), (1, .int v1), (2, .int v2)] [] e → G 2 [(0, .ref v0), (1, .int v1), (2, .int v2), (3, .int s.1)] [] s.2 := by
    intro v0 v1 v2
    refine pb_wl_ind (I := fun (s : Int32 × pb_HP) => G 2 [(0, .ref v0), (1, .int v1), (2, .int v2), (3, .int s.1)] [] s.2) (K := fun (e : pb_HP) => G 39 [(0, .ref v0), (1, .int v1), (2, .int v2)] [] e) (fun s x hf hk => ?_)
    unfold f_174_2s at hf
    refine hG.1 1 2 kb_174_2 _ _ _ rfl ?_
    refine And.intro (fun (hc5 : 600 ≤ s.1) => ?_) (fun (hc5 : ¬ (600 ≤ s.1)) => ?_)
    · rw [if_pos hc5] at hf
      cases hf
      exact hG.2 39 _ [0, 1, 2] _ _ _ rfl hk
    · rw [if_neg hc5] at hf
      obtain ⟨hg1, hf⟩ := pb_gd hf
      obtain ⟨q2, eq2, hf⟩ := Option.bind_eq_some_iff.mp hf
      obtain ⟨hg3, hf⟩ := pb_gd hf
      obtain ⟨hg4, hf⟩ := pb_gd hf
      refine And.intro hg1 (Exists.intro q2 (And.intro eq2 (And.intro hg1 (Exists.intro q2 (And.intro eq2 (And.intro hg3 (And.intro hg4 (?_))))))))
      cases hf
      exact hk
  unfold f_174 at hf
  refine hG.1 0 0 kb_174_0 _ _ _ rfl ?_
  obtain ⟨e6, he_e6, hf⟩ := Option.bind_eq_some_iff.mp hf
  refine hl_2 _ _ _ _ _ _ he_e6 ?_
  refine hG.1 2 39 kb_174_39 _ _ _ rfl ?_
  obtain ⟨hg7, hf⟩ := pb_gd hf
  obtain ⟨q8, eq8, hf⟩ := Option.bind_eq_some_iff.mp hf
  refine And.intro hg7 (Exists.intro q8 (And.intro eq8 (?_)))
  obtain ⟨h10, cr9, hf⟩ := Option.bind_eq_some_iff.mp hf
  refine And.intro (Nat.le_of_ble_eq_true rfl) (And.intro (Nat.le_of_ble_eq_true rfl) (And.intro (Nat.le_of_ble_eq_true rfl) (Exists.intro none (Exists.intro _ (And.intro (l_173 cr9) (?_))))))
  obtain ⟨hg11, hf⟩ := pb_gd hf
  obtain ⟨q12, eq12, hf⟩ := Option.bind_eq_some_iff.mp hf
  refine And.intro hg11 (Exists.intro q12 (And.intro eq12 (?_)))
  obtain ⟨h14, cr13, hf⟩ := Option.bind_eq_some_iff.mp hf
  refine And.intro (Nat.le_of_ble_eq_true rfl) (And.intro (Nat.le_of_ble_eq_true rfl) (And.intro (Nat.le_of_ble_eq_true rfl) (Exists.intro none (Exists.intro _ (And.intro (l_173 cr13) (?_))))))
  obtain ⟨hg15, hf⟩ := pb_gd hf
  obtain ⟨q16, eq16, hf⟩ := Option.bind_eq_some_iff.mp hf
  refine And.intro hg15 (Exists.intro q16 (And.intro eq16 (?_)))
  obtain ⟨h18, cr17, hf⟩ := Option.bind_eq_some_iff.mp hf
  refine And.intro (Nat.le_of_ble_eq_true rfl) (And.intro (Nat.le_of_ble_eq_true rfl) (And.intro (Nat.le_of_ble_eq_true rfl) (Exists.intro none (Exists.intro _ (And.intro (l_173 cr17) (?_))))))
  obtain ⟨hg19, hf⟩ := pb_gd hf
  obtain ⟨q20, eq20, hf⟩ := Option.bind_eq_some_iff.mp hf
  refine And.intro hg19 (Exists.intro q20 (And.intro eq20 (?_)))
  obtain ⟨h22, cr21, hf⟩ := Option.bind_eq_some_iff.mp hf
  refine And.intro (Nat.le_of_ble_eq_true rfl) (And.intro (Nat.le_of_ble_eq_true rfl) (And.intro (Nat.le_of_ble_eq_true rfl) (Exists.intro none (Exists.intro _ (And.intro (l_173 cr21) (?_))))))
  obtain ⟨hg23, hf⟩ := pb_gd hf
  obtain ⟨q24, eq24, hf⟩ := Option.bind_eq_some_iff.mp hf
  refine And.intro hg23 (Exists.intro q24 (And.intro eq24 (?_)))
  obtain ⟨h26, cr25, hf⟩ := Option.bind_eq_some_iff.mp hf
  refine And.intro (Nat.le_of_ble_eq_true rfl) (And.intro (Nat.le_of_ble_eq_true rfl) (And.intro (Nat.le_of_ble_eq_true rfl) (Exists.intro none (Exists.intro _ (And.intro (l_173 cr25) (?_))))))
  obtain ⟨hg27, hf⟩ := pb_gd hf
  obtain ⟨q28, eq28, hf⟩ := Option.bind_eq_some_iff.mp hf
  refine And.intro hg27 (Exists.intro q28 (And.intro eq28 (?_)))
  obtain ⟨h30, cr29, hf⟩ := Option.bind_eq_some_iff.mp hf
  refine And.intro (Nat.le_of_ble_eq_true rfl) (And.intro (Nat.le_of_ble_eq_true rfl) (And.intro (Nat.le_of_ble_eq_true rfl) (Exists.intro none (Exists.intro _ (And.intro (l_173 cr29) (?_))))))
  obtain ⟨hg31, hf⟩ := pb_gd hf
  obtain ⟨q32, eq32, hf⟩ := Option.bind_eq_some_iff.mp hf
  refine And.intro hg31 (Exists.intro q32 (And.intro eq32 (?_)))
  obtain ⟨h34, cr33, hf⟩ := Option.bind_eq_some_iff.mp hf
  refine And.intro (Nat.le_of_ble_eq_true rfl) (And.intro (Nat.le_of_ble_eq_true rfl) (And.intro (Nat.le_of_ble_eq_true rfl) (Exists.intro none (Exists.intro _ (And.intro (l_173 cr33) (?_))))))
  cases hf
  exact And.intro rfl rfl
/-- PointedBenchModel.is -/
def f_175 (h : pb_HP) (v0 : Nat) (v1 : Int32) (v2 : Int32) : Option (Int32) :=
  if pb_is h v0 11 then ((pb_R h v0 5).bind fun q2 => (if pb_ar h q2 12 v1 then ((f_168 v2 0 ((pb_I h q2 v1.toNatClampNeg) - 1)).bind fun r4 => (if r4 = 0 ∨ r4 = 1 then (some r4) else none)) else none)) else none
set_option maxRecDepth 4000 in
theorem l_175 {xs : List Int32} {d : Nat} {h : pb_HP} {v0 : Nat} {v1 : Int32} {v2 : Int32} {r : Int32} (hf : f_175 h v0 v1 v2 = some r) : pb_AR xs (d + 2) 175 h [.ref v0, .int v1, .int v2] (some (.int r)) h := by
  intro G hG
  have hc_ : pb_CODE 175 = kc_175 := rfl
  rw [hc_] at hG
  unfold f_175 at hf
  refine hG.1 0 0 kb_175_0 _ _ _ rfl ?_
  obtain ⟨hg1, hf⟩ := pb_gd hf
  obtain ⟨q2, eq2, hf⟩ := Option.bind_eq_some_iff.mp hf
  obtain ⟨hg3, hf⟩ := pb_gd hf
  refine And.intro hg1 (Exists.intro q2 (And.intro eq2 (And.intro hg3 (?_))))
  obtain ⟨r4, cr4, hf⟩ := Option.bind_eq_some_iff.mp hf
  refine And.intro (Nat.le_of_ble_eq_true rfl) (And.intro (Nat.le_of_ble_eq_true rfl) (And.intro (Nat.le_of_ble_eq_true rfl) (Exists.intro (some (.int r4)) (Exists.intro _ (And.intro (l_168 cr4) (?_))))))
  obtain ⟨hg5, hf⟩ := pb_gd hf
  cases hf
  exact And.intro (fun _ => hg5) (And.intro rfl rfl)
/-- PointedBenchModel.feed -/
def f_176 (N : Nat) (h : pb_HP) (v0 : Nat) (v1 : Int32) (v2 : Int32) (v3 : Int32) (v4 : Int32) (v5 : Int32) : Option (Int32 × pb_HP) :=
  if pb_is h v0 11 then ((pb_R h v0 2).bind fun q2 => (if pb_ar h q2 12 0 then (if ((pb_I (pb_pI h v0 0 0) q2 (0 : Int32).toNatClampNeg) + 20) ≤ 600 then ((f_177 N (pb_pI h v0 0 0) v0 v1).bind fun h5 => (if pb_is h5 v0 11 then ((f_177 N h5 v0 v2).bind fun h8 => (if pb_is h8 v0 11 then ((f_177 N h8 v0 v3).bind fun h11 => (if pb_is h11 v0 11 then ((f_177 N h11 v0 v4).bind fun h14 => (if pb_is h14 v0 11 then ((f_177 N h14 v0 v5).bind fun h17 => (if pb_is h17 v0 11 then ((pb_R h17 v0 2).bind fun q19 => (if pb_ar h17 q19 12 0 then (some ((pb_I h17 q19 (0 : Int32).toNatClampNeg, h17))) else none)) else none)) else none)) else none)) else none)) else none)) else (some (((-1), pb_pI h v0 0 0)))) else none)) else none
set_option maxRecDepth 4000 in
theorem l_176 {xs : List Int32} {d : Nat} {N : Nat} {h : pb_HP} {v0 : Nat} {v1 : Int32} {v2 : Int32} {v3 : Int32} {v4 : Int32} {v5 : Int32} {r : Int32} {hE : pb_HP} (hf : f_176 N h v0 v1 v2 v3 v4 v5 = some ((r, hE))) : pb_AR xs (d + 2) 176 h [.ref v0, .int v1, .int v2, .int v3, .int v4, .int v5] (some (.int r)) hE := by
  intro G hG
  have hc_ : pb_CODE 176 = kc_176 := rfl
  rw [hc_] at hG
  unfold f_176 at hf
  refine hG.1 0 0 kb_176_0 _ _ _ rfl ?_
  obtain ⟨hg1, hf⟩ := pb_gd hf
  obtain ⟨q2, eq2, hf⟩ := Option.bind_eq_some_iff.mp hf
  obtain ⟨hg3, hf⟩ := pb_gd hf
  refine And.intro hg1 (And.intro hg1 (Exists.intro q2 (And.intro eq2 (And.intro hg3 (?_)))))
  refine And.intro (fun (hc21 : ((pb_I (pb_pI h v0 0 0) q2 (0 : Int32).toNatClampNeg) + 20) ≤ 600) => ?_) (fun (hc21 : ¬ (((pb_I (pb_pI h v0 0 0) q2 (0 : Int32).toNatClampNeg) + 20) ≤ 600)) => ?_)
  · rw [if_pos hc21] at hf
    refine hG.1 1 22 kb_176_22 _ _ _ rfl ?_
    obtain ⟨h5, cr4, hf⟩ := Option.bind_eq_some_iff.mp hf
    refine And.intro hg1 (And.intro (Nat.le_of_ble_eq_true rfl) (And.intro (Nat.le_of_ble_eq_true rfl) (Exists.intro none (Exists.intro _ (And.intro (l_177 cr4) (?_))))))
    obtain ⟨hg6, hf⟩ := pb_gd hf
    obtain ⟨h8, cr7, hf⟩ := Option.bind_eq_some_iff.mp hf
    refine And.intro hg6 (And.intro (Nat.le_of_ble_eq_true rfl) (And.intro (Nat.le_of_ble_eq_true rfl) (Exists.intro none (Exists.intro _ (And.intro (l_177 cr7) (?_))))))
    obtain ⟨hg9, hf⟩ := pb_gd hf
    obtain ⟨h11, cr10, hf⟩ := Option.bind_eq_some_iff.mp hf
    refine And.intro hg9 (And.intro (Nat.le_of_ble_eq_true rfl) (And.intro (Nat.le_of_ble_eq_true rfl) (Exists.intro none (Exists.intro _ (And.intro (l_177 cr10) (?_))))))
    obtain ⟨hg12, hf⟩ := pb_gd hf
    obtain ⟨h14, cr13, hf⟩ := Option.bind_eq_some_iff.mp hf
    refine And.intro hg12 (And.intro (Nat.le_of_ble_eq_true rfl) (And.intro (Nat.le_of_ble_eq_true rfl) (Exists.intro none (Exists.intro _ (And.intro (l_177 cr13) (?_))))))
    obtain ⟨hg15, hf⟩ := pb_gd hf
    obtain ⟨h17, cr16, hf⟩ := Option.bind_eq_some_iff.mp hf
    refine And.intro hg15 (And.intro (Nat.le_of_ble_eq_true rfl) (And.intro (Nat.le_of_ble_eq_true rfl) (Exists.intro none (Exists.intro _ (And.intro (l_177 cr16) (?_))))))
    obtain ⟨hg18, hf⟩ := pb_gd hf
    obtain ⟨q19, eq19, hf⟩ := Option.bind_eq_some_iff.mp hf
    obtain ⟨hg20, hf⟩ := pb_gd hf
    refine And.intro hg18 (Exists.intro q19 (And.intro eq19 (And.intro hg20 (?_))))
    cases hf
    exact And.intro (fun z_ => absurd z_ (by decide)) (And.intro rfl rfl)
  · rw [if_neg hc21] at hf
    cases hf
    exact And.intro (fun z_ => absurd z_ (by decide)) (And.intro rfl rfl)
/-- PointedBenchModel.end -/
def f_178 (h : pb_HP) (v0 : Nat) (v1 : Int32) : Option (Int32 × pb_HP) :=
  if pb_is h v0 11 then ((pb_R h v0 2).bind fun q2 => (if pb_ar h q2 12 0 then ((f_168 v1 0 (pb_I (pb_pI h v0 0 0) q2 (0 : Int32).toNatClampNeg)).bind fun r4 => (if ¬ r4 = 0 then (some ((v1, pb_pI (pb_pI h v0 0 0) q2 (0 : Int32).toNatClampNeg v1))) else (some (((-1), pb_pI h v0 0 0))))) else none)) else none
set_option maxRecDepth 4000 in
theorem l_178 {xs : List Int32} {d : Nat} {h : pb_HP} {v0 : Nat} {v1 : Int32} {r : Int32} {hE : pb_HP} (hf : f_178 h v0 v1 = some ((r, hE))) : pb_AR xs (d + 2) 178 h [.ref v0, .int v1] (some (.int r)) hE := by
  intro G hG
  have hc_ : pb_CODE 178 = kc_178 := rfl
  rw [hc_] at hG
  unfold f_178 at hf
  refine hG.1 0 0 kb_178_0 _ _ _ rfl ?_
  obtain ⟨hg1, hf⟩ := pb_gd hf
  obtain ⟨q2, eq2, hf⟩ := Option.bind_eq_some_iff.mp hf
  obtain ⟨hg3, hf⟩ := pb_gd hf
  refine And.intro hg1 (And.intro hg1 (Exists.intro q2 (And.intro eq2 (And.intro hg3 (?_)))))
  obtain ⟨r4, cr4, hf⟩ := Option.bind_eq_some_iff.mp hf
  refine And.intro (Nat.le_of_ble_eq_true rfl) (And.intro (Nat.le_of_ble_eq_true rfl) (And.intro (Nat.le_of_ble_eq_true rfl) (Exists.intro (some (.int r4)) (Exists.intro _ (And.intro (l_168 cr4) (?_))))))
  refine And.intro (fun (hc5 : ¬ r4 = 0) => ?_) (fun (hc5 : ¬ (¬ r4 = 0)) => ?_)
  · rw [if_pos hc5] at hf
    refine hG.1 1 21 kb_178_21 _ _ _ rfl ?_
    refine And.intro hg1 (Exists.intro q2 (And.intro eq2 (And.intro hg3 (?_))))
    cases hf
    exact And.intro (fun z_ => absurd z_ (by decide)) (And.intro rfl rfl)
  · rw [if_neg hc5] at hf
    cases hf
    exact And.intro (fun z_ => absurd z_ (by decide)) (And.intro rfl rfl)
def f_180_18 (N : Nat) (h : pb_HP) (v0 : Nat) : Option ((pb_HP) ⊕ (pb_HP)) :=
  if pb_is h v0 11 then (some (.inl (pb_pI h v0 9 ((pb_I h v0 9) + 1)))) else none
def f_180_0s (N : Nat) (v0 : Nat) (s : pb_HP) : Option ((pb_HP) ⊕ (pb_HP)) :=
  if pb_is s v0 11 then ((f_179 s v0).bind fun r2 => (if r2 = 10 then (f_180_18 N s v0) else ((f_179 s v0).bind fun r4 => (if ¬ r4 = 32 then (some (.inr s)) else (f_180_18 N s v0))))) else none
def f_180_263 (N : Nat) (h : pb_HP) (s0 : Int32) (s1 : Nat) : Option (pb_HP) :=
  if pb_is h s1 11 then (some (pb_pI h s1 12 s0)) else none
def f_180_205 (N : Nat) (h : pb_HP) (v0 : Nat) (v2 : Int32) (s0 : Int32) (s1 : Nat) : Option ((Int32 × pb_HP) ⊕ (Int32 × pb_HP)) :=
  if pb_is h s1 11 then (if pb_is h v0 11 then (some (.inl ((v2 + 1, pb_pI (pb_pI h s1 13 s0) v0 9 ((pb_I (pb_pI h s1 13 s0) v0 9) + 1))))) else none) else none
def f_180_163s (N : Nat) (v0 : Nat) (s : Int32 × pb_HP) : Option ((Int32 × pb_HP) ⊕ (Int32 × pb_HP)) :=
  if pb_is s.2 v0 11 then ((f_179 s.2 v0).bind fun r15 => ((f_168 r15 48 57).bind fun r16 => (if r16 = 0 then (some (.inr ((s.1, s.2)))) else (if 2 ≤ s.1 then (f_180_205 N s.2 v0 s.1 (pb_I s.2 v0 13) v0) else ((f_179 s.2 v0).bind fun r19 => (f_180_205 N s.2 v0 s.1 (((10 * (pb_I s.2 v0 13)) + r19) - 48) v0)))))) else none
def f_180_235 (N : Nat) (h : pb_HP) (s0 : Int32) (s1 : Nat) : Option (pb_HP) :=
  if pb_is h s1 11 then (some (pb_pI h s1 12 s0)) else none
def f_180_74s (N : Nat) (v0 : Nat) (s : Int32 × pb_HP) : Option ((Int32 × pb_HP) ⊕ (Int32 × pb_HP)) :=
  if pb_is s.2 v0 11 then ((f_179 s.2 v0).bind fun r27 => ((f_168 r27 97 122).bind fun r28 => (if r28 = 0 then (some (.inr ((s.1, s.2)))) else ((f_179 s.2 v0).bind fun r29 => (pb_hb (pb_pI (pb_pJ s.2 v0 14 (((pb_J s.2 v0 14) <<< (Int32.toInt64 8 &&& 63)) ||| (Int32.toInt64 r29))) v0 9 ((pb_I (pb_pJ s.2 v0 14 (((pb_J s.2 v0 14) <<< (Int32.toInt64 8 &&& 63)) ||| (Int32.toInt64 r29))) v0 9) + 1)) fun h30 => (some (.inl ((s.1 + 1, h30))))))))) else none
def f_180_136 (N : Nat) (h : pb_HP) (v0 : Nat) (s0 : Int64) (s1 : Nat) : Option (pb_HP) :=
  if pb_is h s1 11 then (if pb_is h v0 11 then (some (pb_pI (pb_pJ h s1 14 s0) v0 12 2)) else none) else none
/-- PointedBenchModel.token -/
def f_180 (N : Nat) (h : pb_HP) (v0 : Nat) : Option (pb_HP) :=
  (pb_wl (f_180_0s N v0) N h).bind fun e7 => (if pb_is e7 v0 11 then ((f_179 (pb_pI e7 v0 11 (pb_I e7 v0 9)) v0).bind fun r9 => (if 0 ≤ r9 then ((f_168 r9 97 122).bind fun r10 => (if r10 = 0 then ((f_168 r9 48 57).bind fun r11 => (if r11 = 0 then (if ¬ r9 = 59 then (f_180_263 N (pb_pI (pb_pJ (pb_pI e7 v0 11 (pb_I e7 v0 9)) v0 14 0) v0 9 ((pb_I (pb_pJ (pb_pI e7 v0 11 (pb_I e7 v0 9)) v0 14 0) v0 9) + 1)) 1 v0) else (f_180_263 N (pb_pI (pb_pJ (pb_pI e7 v0 11 (pb_I e7 v0 9)) v0 14 0) v0 9 ((pb_I (pb_pJ (pb_pI e7 v0 11 (pb_I e7 v0 9)) v0 14 0) v0 9) + 1)) 4 v0)) else ((pb_wl (f_180_163s N v0) N ((0, pb_pI (pb_pJ (pb_pI e7 v0 11 (pb_I e7 v0 9)) v0 14 0) v0 13 0))).bind fun e22 => (if e22.1 ≤ 2 then (f_180_235 N e22.2 3 v0) else (f_180_235 N e22.2 1 v0))))) else ((pb_wl (f_180_74s N v0) N ((0, pb_pJ (pb_pI e7 v0 11 (pb_I e7 v0 9)) v0 14 0))).bind fun e33 => (if e33.1 ≤ 8 then (if pb_is e33.2 v0 11 then (f_180_136 N e33.2 v0 (pb_J e33.2 v0 14) v0) else none) else (f_180_136 N e33.2 v0 0 v0))))) else (some (pb_pI (pb_pJ (pb_pI e7 v0 11 (pb_I e7 v0 9)) v0 14 0) v0 12 0)))) else none)
set_option maxRecDepth 4000 in
theorem l_180 {xs : List Int32} {d : Nat} {N : Nat} {h : pb_HP} {v0 : Nat} {hE : pb_HP} (hf : f_180 N h v0 = some hE) : pb_AR xs (d + 2) 180 h [.ref v0] none hE := by
  intro G hG
  have hc_ : pb_CODE 180 = kc_180 := rfl
  rw [hc_] at hG
  have hj_18 : ∀ (h : pb_HP) (v0 : Nat) x, f_180_18 N h v0 = some x → pb_kk (fun (s_ : pb_HP) => G 0 [(0, .ref v0)] [] s_) (fun (e_ : pb_HP) => G 31 [(0, .ref v0)] [] e_) x → G 18 [(0, .ref v0)] [] h := by
    intro h v0 x hf hk
    unfold f_180_18 at hf
    refine hG.1 1 18 kb_180_18 _ _ _ rfl ?_
    obtain ⟨hg3, hf⟩ := pb_gd hf
    refine And.intro hg3 (And.intro hg3 (?_))
    cases hf
    exact hk
  have hl_0 : ∀ (v0 : Nat) (n_ : Nat) (s : pb_HP) (e : pb_HP), pb_wl (f_180_0s N v0) n_ s = some e → G 31 [(0, .ref v0)] [] e → G 0 [(0, .ref v0)] [] s := by
    intro v0
    refine pb_wl_ind (I := fun (s : pb_HP) => G 0 [(0, .ref v0)] [] s) (K := fun (e : pb_HP) => G 31 [(0, .ref v0)] [] e) (fun s x hf hk => ?_)
    unfold f_180_0s at hf
    refine hG.1 0 0 kb_180_0 _ _ _ rfl ?_
    obtain ⟨hg1, hf⟩ := pb_gd hf
    obtain ⟨r2, cr2, hf⟩ := Option.bind_eq_some_iff.mp hf
    refine And.intro hg1 (And.intro (Nat.le_of_ble_eq_true rfl) (And.intro (Nat.le_of_ble_eq_true rfl) (Exists.intro (some (.int r2)) (Exists.intro _ (And.intro (l_179 cr2) (?_))))))
    refine And.intro (fun (hc6 : r2 = 10) => ?_) (fun (hc6 : ¬ (r2 = 10)) => ?_)
    · rw [if_pos hc6] at hf
      exact hj_18 _ _ _ hf hk
    · rw [if_neg hc6] at hf
      obtain ⟨r4, cr4, hf⟩ := Option.bind_eq_some_iff.mp hf
      refine And.intro hg1 (And.intro (Nat.le_of_ble_eq_true rfl) (And.intro (Nat.le_of_ble_eq_true rfl) (Exists.intro (some (.int r4)) (Exists.intro _ (And.intro (l_179 cr4) (?_))))))
      refine And.intro (fun (hc5 : ¬ r4 = 32) => ?_) (fun (hc5 : ¬ (¬ r4 = 32)) => ?_)
      · rw [if_pos hc5] at hf
        cases hf
        exact hk
      · rw [if_neg hc5] at hf
        exact hj_18 _ _ _ hf hk
  have hj_263 : ∀ (h : pb_HP) (s0 : Int32) (s1 : Nat), f_180_263 N h s0 s1 = some hE → G 263 [] [.int s0, .ref s1] h := by
    intro h s0 s1 hf
    unfold f_180_263 at hf
    refine hG.1 17 263 kb_180_263 _ _ _ rfl ?_
    obtain ⟨hg12, hf⟩ := pb_gd hf
    refine And.intro hg12 (?_)
    refine hG.1 18 266 kb_180_266 _ _ _ rfl ?_
    cases hf
    exact And.intro rfl rfl
  have hj_205 : ∀ (h : pb_HP) (v0 : Nat) (v2 : Int32) (s0 : Int32) (s1 : Nat) x, f_180_205 N h v0 v2 s0 s1 = some x → pb_kk (fun (s_ : Int32 × pb_HP) => G 163 [(0, .ref v0), (2, .int s_.1)] [] s_.2) (fun (e_ : Int32 × pb_HP) => G 224 [(0, .ref v0), (2, .int e_.1)] [] e_.2) x → G 205 [(0, .ref v0), (2, .int v2)] [.int s0, .ref s1] h := by
    intro h v0 v2 s0 s1 x hf hk
    unfold f_180_205 at hf
    refine hG.1 11 205 kb_180_205 _ _ _ rfl ?_
    obtain ⟨hg17, hf⟩ := pb_gd hf
    obtain ⟨hg18, hf⟩ := pb_gd hf
    refine And.intro hg17 (And.intro hg18 (And.intro hg18 (?_)))
    cases hf
    exact hk
  have hl_163 : ∀ (v0 : Nat) (n_ : Nat) (s : Int32 × pb_HP) (e : Int32 × pb_HP), pb_wl (f_180_163s N v0) n_ s = some e → G 224 [(0, .ref v0), (2, .int e.1)] [] e.2 → G 163 [(0, .ref v0), (2, .int s.1)] [] s.2 := by
    intro v0
    refine pb_wl_ind (I := fun (s : Int32 × pb_HP) => G 163 [(0, .ref v0), (2, .int s.1)] [] s.2) (K := fun (e : Int32 × pb_HP) => G 224 [(0, .ref v0), (2, .int e.1)] [] e.2) (fun s x hf hk => ?_)
    unfold f_180_163s at hf
    refine hG.1 9 163 kb_180_163 _ _ _ rfl ?_
    obtain ⟨hg14, hf⟩ := pb_gd hf
    obtain ⟨r15, cr15, hf⟩ := Option.bind_eq_some_iff.mp hf
    refine And.intro hg14 (And.intro (Nat.le_of_ble_eq_true rfl) (And.intro (Nat.le_of_ble_eq_true rfl) (Exists.intro (some (.int r15)) (Exists.intro _ (And.intro (l_179 cr15) (?_))))))
    obtain ⟨r16, cr16, hf⟩ := Option.bind_eq_some_iff.mp hf
    refine And.intro (Nat.le_of_ble_eq_true rfl) (And.intro (Nat.le_of_ble_eq_true rfl) (And.intro (Nat.le_of_ble_eq_true rfl) (Exists.intro (some (.int r16)) (Exists.intro _ (And.intro (l_168 cr16) (?_))))))
    refine And.intro (fun (hc21 : r16 = 0) => ?_) (fun (hc21 : ¬ (r16 = 0)) => ?_)
    · rw [if_pos hc21] at hf
      cases hf
      exact hk
    · rw [if_neg hc21] at hf
      refine And.intro (fun (hc20 : 2 ≤ s.1) => ?_) (fun (hc20 : ¬ (2 ≤ s.1)) => ?_)
      · rw [if_pos hc20] at hf
        refine hG.1 10 201 kb_180_201 _ _ _ rfl ?_
        refine And.intro hg14 (?_)
        exact hj_205 _ _ _ _ _ _ hf hk
      · rw [if_neg hc20] at hf
        refine And.intro hg14 (?_)
        obtain ⟨r19, cr19, hf⟩ := Option.bind_eq_some_iff.mp hf
        refine And.intro hg14 (And.intro (Nat.le_of_ble_eq_true rfl) (And.intro (Nat.le_of_ble_eq_true rfl) (Exists.intro (some (.int r19)) (Exists.intro _ (And.intro (l_179 cr19) (?_))))))
        exact hj_205 _ _ _ _ _ _ hf hk
  have hj_235 : ∀ (h : pb_HP) (s0 : Int32) (s1 : Nat), f_180_235 N h s0 s1 = some hE → G 235 [] [.int s0, .ref s1] h := by
    intro h s0 s1 hf
    unfold f_180_235 at hf
    refine hG.1 14 235 kb_180_235 _ _ _ rfl ?_
    obtain ⟨hg23, hf⟩ := pb_gd hf
    refine And.intro hg23 (?_)
    refine hG.1 18 266 kb_180_266 _ _ _ rfl ?_
    cases hf
    exact And.intro rfl rfl
  have hl_74 : ∀ (v0 : Nat) (n_ : Nat) (s : Int32 × pb_HP) (e : Int32 × pb_HP), pb_wl (f_180_74s N v0) n_ s = some e → G 121 [(0, .ref v0), (2, .int e.1)] [] e.2 → G 74 [(0, .ref v0), (2, .int s.1)] [] s.2 := by
    intro v0
    refine pb_wl_ind (I := fun (s : Int32 × pb_HP) => G 74 [(0, .ref v0), (2, .int s.1)] [] s.2) (K := fun (e : Int32 × pb_HP) => G 121 [(0, .ref v0), (2, .int e.1)] [] e.2) (fun s x hf hk => ?_)
    unfold f_180_74s at hf
    refine hG.1 4 74 kb_180_74 _ _ _ rfl ?_
    obtain ⟨hg26, hf⟩ := pb_gd hf
    obtain ⟨r27, cr27, hf⟩ := Option.bind_eq_some_iff.mp hf
    refine And.intro hg26 (And.intro (Nat.le_of_ble_eq_true rfl) (And.intro (Nat.le_of_ble_eq_true rfl) (Exists.intro (some (.int r27)) (Exists.intro _ (And.intro (l_179 cr27) (?_))))))
    obtain ⟨r28, cr28, hf⟩ := Option.bind_eq_some_iff.mp hf
    refine And.intro (Nat.le_of_ble_eq_true rfl) (And.intro (Nat.le_of_ble_eq_true rfl) (And.intro (Nat.le_of_ble_eq_true rfl) (Exists.intro (some (.int r28)) (Exists.intro _ (And.intro (l_168 cr28) (?_))))))
    refine And.intro (fun (hc32 : r28 = 0) => ?_) (fun (hc32 : ¬ (r28 = 0)) => ?_)
    · rw [if_pos hc32] at hf
      cases hf
      exact hk
    · rw [if_neg hc32] at hf
      refine And.intro hg26 (?_)
      obtain ⟨r29, cr29, hf⟩ := Option.bind_eq_some_iff.mp hf
      refine And.intro hg26 (And.intro (Nat.le_of_ble_eq_true rfl) (And.intro (Nat.le_of_ble_eq_true rfl) (Exists.intro (some (.int r29)) (Exists.intro _ (And.intro (l_179 cr29) (?_))))))
      refine And.intro hg26 (And.intro hg26 (And.intro hg26 (?_)))
      refine pb_hset (E := pb_pI (pb_pJ s.2 v0 14 (((pb_J s.2 v0 14) <<< (Int32.toInt64 8 &&& 63)) ||| (Int32.toInt64 r29))) v0 9 ((pb_I (pb_pJ s.2 v0 14 (((pb_J s.2 v0 14) <<< (Int32.toInt64 8 &&& 63)) ||| (Int32.toInt64 r29))) v0 9) + 1)) rfl (fun h30 eh30 => ?_)
      have hf := pb_hbd hf eh30
      have hg31 : pb_is h30 v0 11 := pb_isx eh30 hg26
      cases hf
      exact hk
  have hj_136 : ∀ (h : pb_HP) (v0 : Nat) (s0 : Int64) (s1 : Nat), f_180_136 N h v0 s0 s1 = some hE → G 136 [(0, .ref v0)] [.long s0, .ref s1] h := by
    intro h v0 s0 s1 hf
    unfold f_180_136 at hf
    refine hG.1 7 136 kb_180_136 _ _ _ rfl ?_
    obtain ⟨hg35, hf⟩ := pb_gd hf
    obtain ⟨hg36, hf⟩ := pb_gd hf
    refine And.intro hg35 (And.intro hg36 (?_))
    refine hG.1 18 266 kb_180_266 _ _ _ rfl ?_
    cases hf
    exact And.intro rfl rfl
  unfold f_180 at hf
  obtain ⟨e7, he_e7, hf⟩ := Option.bind_eq_some_iff.mp hf
  refine hl_0 _ _ _ _ he_e7 ?_
  refine hG.1 2 31 kb_180_31 _ _ _ rfl ?_
  obtain ⟨hg8, hf⟩ := pb_gd hf
  refine And.intro hg8 (And.intro hg8 (?_))
  obtain ⟨r9, cr9, hf⟩ := Option.bind_eq_some_iff.mp hf
  refine And.intro hg8 (And.intro (Nat.le_of_ble_eq_true rfl) (And.intro (Nat.le_of_ble_eq_true rfl) (Exists.intro (some (.int r9)) (Exists.intro _ (And.intro (l_179 cr9) (?_))))))
  refine And.intro hg8 (?_)
  refine And.intro (fun (hc39 : 0 ≤ r9) => ?_) (fun (hc39 : ¬ (0 ≤ r9)) => ?_)
  · rw [if_pos hc39] at hf
    refine hG.1 3 63 kb_180_63 _ _ _ rfl ?_
    obtain ⟨r10, cr10, hf⟩ := Option.bind_eq_some_iff.mp hf
    refine And.intro (Nat.le_of_ble_eq_true rfl) (And.intro (Nat.le_of_ble_eq_true rfl) (And.intro (Nat.le_of_ble_eq_true rfl) (Exists.intro (some (.int r10)) (Exists.intro _ (And.intro (l_168 cr10) (?_))))))
    refine And.intro (fun (hc38 : r10 = 0) => ?_) (fun (hc38 : ¬ (r10 = 0)) => ?_)
    · rw [if_pos hc38] at hf
      refine hG.1 8 147 kb_180_147 _ _ _ rfl ?_
      obtain ⟨r11, cr11, hf⟩ := Option.bind_eq_some_iff.mp hf
      refine And.intro (Nat.le_of_ble_eq_true rfl) (And.intro (Nat.le_of_ble_eq_true rfl) (And.intro (Nat.le_of_ble_eq_true rfl) (Exists.intro (some (.int r11)) (Exists.intro _ (And.intro (l_168 cr11) (?_))))))
      refine And.intro (fun (hc25 : r11 = 0) => ?_) (fun (hc25 : ¬ (r11 = 0)) => ?_)
      · rw [if_pos hc25] at hf
        refine hG.1 15 241 kb_180_241 _ _ _ rfl ?_
        refine And.intro hg8 (And.intro hg8 (?_))
        refine And.intro (fun (hc13 : ¬ r9 = 59) => ?_) (fun (hc13 : ¬ (¬ r9 = 59)) => ?_)
        · rw [if_pos hc13] at hf
          refine hG.1 16 262 kb_180_262 _ _ _ rfl ?_
          refine hG.2 263 _ [] _ _ _ rfl ?_
          exact hj_263 _ _ _ hf
        · rw [if_neg hc13] at hf
          refine hG.2 263 _ [] _ _ _ rfl ?_
          exact hj_263 _ _ _ hf
      · rw [if_neg hc25] at hf
        refine And.intro hg8 (?_)
        obtain ⟨e22, he_e22, hf⟩ := Option.bind_eq_some_iff.mp hf
        refine hG.2 163 _ [0, 2] _ _ _ rfl ?_
        refine hl_163 _ _ _ _ he_e22 ?_
        refine hG.1 12 224 kb_180_224 _ _ _ rfl ?_
        refine And.intro (fun (hc24 : e22.1 ≤ 2) => ?_) (fun (hc24 : ¬ (e22.1 ≤ 2)) => ?_)
        · rw [if_pos hc24] at hf
          refine hG.1 13 234 kb_180_234 _ _ _ rfl ?_
          refine hG.2 235 _ [] _ _ _ rfl ?_
          exact hj_235 _ _ _ hf
        · rw [if_neg hc24] at hf
          refine hG.2 235 _ [] _ _ _ rfl ?_
          exact hj_235 _ _ _ hf
    · rw [if_neg hc38] at hf
      obtain ⟨e33, he_e33, hf⟩ := Option.bind_eq_some_iff.mp hf
      refine hG.2 74 _ [0, 2] _ _ _ rfl ?_
      refine hl_74 _ _ _ _ he_e33 ?_
      refine hG.1 5 121 kb_180_121 _ _ _ rfl ?_
      refine And.intro (fun (hc37 : e33.1 ≤ 8) => ?_) (fun (hc37 : ¬ (e33.1 ≤ 8)) => ?_)
      · rw [if_pos hc37] at hf
        refine hG.1 6 132 kb_180_132 _ _ _ rfl ?_
        obtain ⟨hg34, hf⟩ := pb_gd hf
        refine And.intro hg34 (?_)
        refine hG.2 136 _ [0] _ _ _ rfl ?_
        exact hj_136 _ _ _ _ hf
      · rw [if_neg hc37] at hf
        refine hG.2 136 _ [0] _ _ _ rfl ?_
        exact hj_136 _ _ _ _ hf
  · rw [if_neg hc39] at hf
    refine And.intro hg8 (?_)
    refine hG.1 18 266 kb_180_266 _ _ _ rfl ?_
    cases hf
    exact And.intro rfl rfl
/-- PointedBenchModel.full -/
def f_184 (h : pb_HP) (v0 : Nat) (v1 : Int32) (v2 : Int32) (v3 : Int32) : Option (pb_HP) :=
  if pb_is h v0 11 then ((pb_R h v0 18).bind fun q2 => (if pb_ar h q2 12 v1 then (if ¬ (pb_I h q2 v1.toNatClampNeg) = v2 then (some h) else ((f_182 h v0 3 v3).bind fun h5 => (some h5))) else none)) else none
set_option maxRecDepth 4000 in
theorem l_184 {xs : List Int32} {d : Nat} {h : pb_HP} {v0 : Nat} {v1 : Int32} {v2 : Int32} {v3 : Int32} {hE : pb_HP} (hf : f_184 h v0 v1 v2 v3 = some hE) : pb_AR xs (d + 2) 184 h [.ref v0, .int v1, .int v2, .int v3] none hE := by
  intro G hG
  have hc_ : pb_CODE 184 = kc_184 := rfl
  rw [hc_] at hG
  unfold f_184 at hf
  refine hG.1 0 0 kb_184_0 _ _ _ rfl ?_
  obtain ⟨hg1, hf⟩ := pb_gd hf
  obtain ⟨q2, eq2, hf⟩ := Option.bind_eq_some_iff.mp hf
  obtain ⟨hg3, hf⟩ := pb_gd hf
  refine And.intro hg1 (Exists.intro q2 (And.intro eq2 (And.intro hg3 (?_))))
  refine And.intro (fun (hc6 : ¬ (pb_I h q2 v1.toNatClampNeg) = v2) => ?_) (fun (hc6 : ¬ (¬ (pb_I h q2 v1.toNatClampNeg) = v2)) => ?_)
  · rw [if_pos hc6] at hf
    refine hG.1 1 16 kb_184_16 _ _ _ rfl ?_
    cases hf
    exact And.intro rfl rfl
  · rw [if_neg hc6] at hf
    obtain ⟨h5, cr4, hf⟩ := Option.bind_eq_some_iff.mp hf
    refine And.intro hg1 (And.intro (Nat.le_of_ble_eq_true rfl) (And.intro (Nat.le_of_ble_eq_true rfl) (Exists.intro none (Exists.intro _ (And.intro (l_182 cr4) (?_))))))
    refine hG.1 1 16 kb_184_16 _ _ _ rfl ?_
    cases hf
    exact And.intro rfl rfl
def f_199_2s (N : Nat) (v0 : Nat) (s : Int32 × pb_HP) : Option ((Int32 × pb_HP) ⊕ (pb_HP)) :=
  if 6 ≤ s.1 then (some (.inr s.2)) else (if pb_is s.2 v0 11 then ((pb_R s.2 v0 30).bind fun q2 => ((f_197 s.2 v0 (8 + s.1)).bind fun r3 => (if pb_ar s.2 q2 12 s.1 then ((pb_R s.2 v0 31).bind fun q5 => ((f_197 (pb_pI s.2 q2 s.1.toNatClampNeg r3) v0 (14 + s.1)).bind fun r6 => (if pb_ar s.2 q5 12 s.1 then ((pb_R s.2 v0 32).bind fun q8 => ((f_197 (pb_pI (pb_pI s.2 q2 s.1.toNatClampNeg r3) q5 s.1.toNatClampNeg r6) v0 (20 + s.1)).bind fun r9 => (if pb_ar s.2 q8 12 s.1 then ((pb_R s.2 v0 33).bind fun q11 => ((f_197 (pb_pI (pb_pI (pb_pI s.2 q2 s.1.toNatClampNeg r3) q5 s.1.toNatClampNeg r6) q8 s.1.toNatClampNeg r9) v0 (26 + s.1)).bind fun r12 => (if pb_ar s.2 q11 12 s.1 then (some (.inl ((s.1 + 1, pb_pI (pb_pI (pb_pI (pb_pI s.2 q2 s.1.toNatClampNeg r3) q5 s.1.toNatClampNeg r6) q8 s.1.toNatClampNeg r9) q11 s.1.toNatClampNeg r12)))) else none))) else none))) else none))) else none))) else none)
def f_199_72s (N : Nat) (v0 : Nat) (s : Int32 × pb_HP) : Option ((Int32 × pb_HP) ⊕ (pb_HP)) :=
  if 36 ≤ s.1 then (some (.inr s.2)) else (if pb_is s.2 v0 11 then ((pb_R s.2 v0 34).bind fun q17 => ((f_197 s.2 v0 (32 + s.1)).bind fun r18 => (if pb_ar s.2 q17 12 s.1 then (some (.inl ((s.1 + 1, pb_pI s.2 q17 s.1.toNatClampNeg r18)))) else none))) else none)
/-- PointedBenchModel.asTold -/
def f_199 (N : Nat) (h : pb_HP) (v0 : Nat) : Option (pb_HP) :=
  (pb_wl (f_199_2s N v0) N ((0, h))).bind fun e15 => ((pb_wl (f_199_72s N v0) N ((0, e15))).bind fun e21 => (some e21))
set_option maxRecDepth 4000 in
theorem l_199 {xs : List Int32} {d : Nat} {N : Nat} {h : pb_HP} {v0 : Nat} {hE : pb_HP} (hf : f_199 N h v0 = some hE) : pb_AR xs (d + 2) 199 h [.ref v0] none hE := by
  intro G hG
  have hc_ : pb_CODE 199 = kc_199 := rfl
  rw [hc_] at hG
  have hl_2 : ∀ (v0 : Nat) (n_ : Nat) (s : Int32 × pb_HP) (e : pb_HP), pb_wl (f_199_2s N v0) n_ s = some e → G 70 [(0, .ref v0)] [] e → G 2 [(0, .ref v0), (1, .int s.1)] [] s.2 := by
    intro v0
    refine pb_wl_ind (I := fun (s : Int32 × pb_HP) => G 2 [(0, .ref v0), (1, .int s.1)] [] s.2) (K := fun (e : pb_HP) => G 70 [(0, .ref v0)] [] e) (fun s x hf hk => ?_)
    unfold f_199_2s at hf
    refine hG.1 1 2 kb_199_2 _ _ _ rfl ?_
    refine And.intro (fun (hc14 : 6 ≤ s.1) => ?_) (fun (hc14 : ¬ (6 ≤ s.1)) => ?_)
    · rw [if_pos hc14] at hf
      cases hf
      exact hG.2 70 _ [0] _ _ _ rfl hk
    · rw [if_neg hc14] at hf
      obtain ⟨hg1, hf⟩ := pb_gd hf
      obtain ⟨q2, eq2, hf⟩ := Option.bind_eq_some_iff.mp hf
      refine And.intro hg1 (Exists.intro q2 (And.intro eq2 (?_)))
      obtain ⟨r3, cr3, hf⟩ := Option.bind_eq_some_iff.mp hf
      refine And.intro hg1 (And.intro (Nat.le_of_ble_eq_true rfl) (And.intro (Nat.le_of_ble_eq_true rfl) (Exists.intro (some (.int r3)) (Exists.intro _ (And.intro (l_197 cr3) (?_))))))
      obtain ⟨hg4, hf⟩ := pb_gd hf
      obtain ⟨q5, eq5, hf⟩ := Option.bind_eq_some_iff.mp hf
      refine And.intro hg4 (And.intro hg1 (Exists.intro q5 (And.intro eq5 (?_))))
      obtain ⟨r6, cr6, hf⟩ := Option.bind_eq_some_iff.mp hf
      refine And.intro hg1 (And.intro (Nat.le_of_ble_eq_true rfl) (And.intro (Nat.le_of_ble_eq_true rfl) (Exists.intro (some (.int r6)) (Exists.intro _ (And.intro (l_197 cr6) (?_))))))
      obtain ⟨hg7, hf⟩ := pb_gd hf
      obtain ⟨q8, eq8, hf⟩ := Option.bind_eq_some_iff.mp hf
      refine And.intro hg7 (And.intro hg1 (Exists.intro q8 (And.intro eq8 (?_))))
      obtain ⟨r9, cr9, hf⟩ := Option.bind_eq_some_iff.mp hf
      refine And.intro hg1 (And.intro (Nat.le_of_ble_eq_true rfl) (And.intro (Nat.le_of_ble_eq_true rfl) (Exists.intro (some (.int r9)) (Exists.intro _ (And.intro (l_197 cr9) (?_))))))
      obtain ⟨hg10, hf⟩ := pb_gd hf
      obtain ⟨q11, eq11, hf⟩ := Option.bind_eq_some_iff.mp hf
      refine And.intro hg10 (And.intro hg1 (Exists.intro q11 (And.intro eq11 (?_))))
      obtain ⟨r12, cr12, hf⟩ := Option.bind_eq_some_iff.mp hf
      refine And.intro hg1 (And.intro (Nat.le_of_ble_eq_true rfl) (And.intro (Nat.le_of_ble_eq_true rfl) (Exists.intro (some (.int r12)) (Exists.intro _ (And.intro (l_197 cr12) (?_))))))
      obtain ⟨hg13, hf⟩ := pb_gd hf
      refine And.intro hg13 (?_)
      cases hf
      exact hk
  have hl_72 : ∀ (v0 : Nat) (n_ : Nat) (s : Int32 × pb_HP) (e : pb_HP), pb_wl (f_199_72s N v0) n_ s = some e → G 98 [] [] e → G 72 [(0, .ref v0), (1, .int s.1)] [] s.2 := by
    intro v0
    refine pb_wl_ind (I := fun (s : Int32 × pb_HP) => G 72 [(0, .ref v0), (1, .int s.1)] [] s.2) (K := fun (e : pb_HP) => G 98 [] [] e) (fun s x hf hk => ?_)
    unfold f_199_72s at hf
    refine hG.1 3 72 kb_199_72 _ _ _ rfl ?_
    refine And.intro (fun (hc20 : 36 ≤ s.1) => ?_) (fun (hc20 : ¬ (36 ≤ s.1)) => ?_)
    · rw [if_pos hc20] at hf
      cases hf
      exact hG.2 98 _ [] _ _ _ rfl hk
    · rw [if_neg hc20] at hf
      obtain ⟨hg16, hf⟩ := pb_gd hf
      obtain ⟨q17, eq17, hf⟩ := Option.bind_eq_some_iff.mp hf
      refine And.intro hg16 (Exists.intro q17 (And.intro eq17 (?_)))
      obtain ⟨r18, cr18, hf⟩ := Option.bind_eq_some_iff.mp hf
      refine And.intro hg16 (And.intro (Nat.le_of_ble_eq_true rfl) (And.intro (Nat.le_of_ble_eq_true rfl) (Exists.intro (some (.int r18)) (Exists.intro _ (And.intro (l_197 cr18) (?_))))))
      obtain ⟨hg19, hf⟩ := pb_gd hf
      refine And.intro hg19 (?_)
      cases hf
      exact hk
  unfold f_199 at hf
  refine hG.1 0 0 kb_199_0 _ _ _ rfl ?_
  obtain ⟨e15, he_e15, hf⟩ := Option.bind_eq_some_iff.mp hf
  refine hl_2 _ _ _ _ he_e15 ?_
  refine hG.1 2 70 kb_199_70 _ _ _ rfl ?_
  obtain ⟨e21, he_e21, hf⟩ := Option.bind_eq_some_iff.mp hf
  refine hl_72 _ _ _ _ he_e21 ?_
  refine hG.1 4 98 kb_199_98 _ _ _ rfl ?_
  cases hf
  exact And.intro rfl rfl
/-- PointedBenchModel.isMan -/
def f_200 (h : pb_HP) (v0 : Nat) (v1 : Int32) : Option (Int32) :=
  if pb_is h v0 11 then ((f_168 v1 0 ((pb_I h v0 24) - 1)).bind fun r2 => (if r2 = 0 ∨ r2 = 1 then (some r2) else none)) else none
set_option maxRecDepth 4000 in
theorem l_200 {xs : List Int32} {d : Nat} {h : pb_HP} {v0 : Nat} {v1 : Int32} {r : Int32} (hf : f_200 h v0 v1 = some r) : pb_AR xs (d + 2) 200 h [.ref v0, .int v1] (some (.int r)) h := by
  intro G hG
  have hc_ : pb_CODE 200 = kc_200 := rfl
  rw [hc_] at hG
  unfold f_200 at hf
  refine hG.1 0 0 kb_200_0 _ _ _ rfl ?_
  obtain ⟨hg1, hf⟩ := pb_gd hf
  refine And.intro hg1 (?_)
  obtain ⟨r2, cr2, hf⟩ := Option.bind_eq_some_iff.mp hf
  refine And.intro (Nat.le_of_ble_eq_true rfl) (And.intro (Nat.le_of_ble_eq_true rfl) (And.intro (Nat.le_of_ble_eq_true rfl) (Exists.intro (some (.int r2)) (Exists.intro _ (And.intro (l_168 cr2) (?_))))))
  obtain ⟨hg3, hf⟩ := pb_gd hf
  cases hf
  exact And.intro (fun _ => hg3) (And.intro rfl rfl)
/-- PointedBenchModel.isChild -/
def f_201 (h : pb_HP) (v0 : Nat) (v1 : Int32) : Option (Int32) :=
  if pb_is h v0 11 then ((f_168 v1 0 ((pb_I h v0 25) - 1)).bind fun r2 => (if r2 = 0 ∨ r2 = 1 then (some r2) else none)) else none
set_option maxRecDepth 4000 in
theorem l_201 {xs : List Int32} {d : Nat} {h : pb_HP} {v0 : Nat} {v1 : Int32} {r : Int32} (hf : f_201 h v0 v1 = some r) : pb_AR xs (d + 2) 201 h [.ref v0, .int v1] (some (.int r)) h := by
  intro G hG
  have hc_ : pb_CODE 201 = kc_201 := rfl
  rw [hc_] at hG
  unfold f_201 at hf
  refine hG.1 0 0 kb_201_0 _ _ _ rfl ?_
  obtain ⟨hg1, hf⟩ := pb_gd hf
  refine And.intro hg1 (?_)
  obtain ⟨r2, cr2, hf⟩ := Option.bind_eq_some_iff.mp hf
  refine And.intro (Nat.le_of_ble_eq_true rfl) (And.intro (Nat.le_of_ble_eq_true rfl) (And.intro (Nat.le_of_ble_eq_true rfl) (Exists.intro (some (.int r2)) (Exists.intro _ (And.intro (l_168 cr2) (?_))))))
  obtain ⟨hg3, hf⟩ := pb_gd hf
  cases hf
  exact And.intro (fun _ => hg3) (And.intro rfl rfl)
def f_203_4s (N : Nat) (h : pb_HP) (v0 : Nat) (s : Int32 × Int32) : Option ((Int32 × Int32) ⊕ (Int32)) :=
  if pb_is h v0 11 then (if (pb_I h v0 25) ≤ s.2 then (some (.inr s.1)) else ((f_202 h v0 s.2).bind fun r2 => (if r2 = 0 then (some (.inl ((s.1 ||| 0, s.2 + 1)))) else (some (.inl ((s.1 ||| ((1 : Int32) <<< (s.2 &&& 31)), s.2 + 1))))))) else none
/-- PointedBenchModel.voters -/
def f_203 (N : Nat) (h : pb_HP) (v0 : Nat) : Option (Int32) :=
  (pb_wl (f_203_4s N h v0) N ((0, 0))).bind fun e5 => (some e5)
set_option maxRecDepth 4000 in
theorem l_203 {xs : List Int32} {d : Nat} {N : Nat} {h : pb_HP} {v0 : Nat} {r : Int32} (hf : f_203 N h v0 = some r) : pb_AR xs (d + 2) 203 h [.ref v0] (some (.int r)) h := by
  intro G hG
  have hc_ : pb_CODE 203 = kc_203 := rfl
  rw [hc_] at hG
  have hl_4 : ∀ (v0 : Nat) (n_ : Nat) (s : Int32 × Int32) (e : Int32), pb_wl (f_203_4s N h v0) n_ s = some e → G 36 [(1, .int e)] [] h → G 4 [(0, .ref v0), (1, .int s.1), (2, .int s.2)] [] h := by
    intro v0
    refine pb_wl_ind (I := fun (s : Int32 × Int32) => G 4 [(0, .ref v0), (1, .int s.1), (2, .int s.2)] [] h) (K := fun (e : Int32) => G 36 [(1, .int e)] [] h) (fun s x hf hk => ?_)
    unfold f_203_4s at hf
    refine hG.1 1 4 kb_203_4 _ _ _ rfl ?_
    obtain ⟨hg1, hf⟩ := pb_gd hf
    refine And.intro hg1 (?_)
    refine And.intro (fun (hc4 : (pb_I h v0 25) ≤ s.2) => ?_) (fun (hc4 : ¬ ((pb_I h v0 25) ≤ s.2)) => ?_)
    · rw [if_pos hc4] at hf
      cases hf
      exact hG.2 36 _ [1] _ _ _ rfl hk
    · rw [if_neg hc4] at hf
      obtain ⟨r2, cr2, hf⟩ := Option.bind_eq_some_iff.mp hf
      refine And.intro hg1 (And.intro (Nat.le_of_ble_eq_true rfl) (And.intro (Nat.le_of_ble_eq_true rfl) (Exists.intro (some (.int r2)) (Exists.intro _ (And.intro (l_202 cr2) (?_))))))
      refine And.intro (fun (hc3 : r2 = 0) => ?_) (fun (hc3 : ¬ (r2 = 0)) => ?_)
      · rw [if_pos hc3] at hf
        refine hG.1 2 27 kb_203_27 _ _ _ rfl ?_
        refine hG.1 3 28 kb_203_28 _ _ _ rfl ?_
        cases hf
        exact hk
      · rw [if_neg hc3] at hf
        refine hG.1 3 28 kb_203_28 _ _ _ rfl ?_
        cases hf
        exact hk
  unfold f_203 at hf
  refine hG.1 0 0 kb_203_0 _ _ _ rfl ?_
  obtain ⟨e5, he_e5, hf⟩ := Option.bind_eq_some_iff.mp hf
  refine hl_4 _ _ _ _ he_e5 ?_
  refine hG.1 4 36 kb_203_36 _ _ _ rfl ?_
  cases hf
  exact And.intro (fun z_ => absurd z_ (by decide)) (And.intro rfl rfl)
def f_204_5s (N : Nat) (h : pb_HP) (v0 : Nat) (v1 : Int32) (v2 : Int32) (s : Int32 × Int32) : Option ((Int32 × Int32) ⊕ (Int32)) :=
  if 6 ≤ s.2 then (some (.inr s.1)) else ((f_169 v2 s.2).bind fun r1 => (if r1 = 0 then (some (.inl ((s.1 + 0, s.2 + 1)))) else (if pb_is h v0 11 then ((pb_R h v0 34).bind fun q3 => (if pb_ar h q3 12 ((6 * v1) + s.2) then (some (.inl ((s.1 + (pb_I h q3 ((6 * v1) + s.2).toNatClampNeg), s.2 + 1)))) else none)) else none)))
/-- PointedBenchModel.likesOf -/
def f_204 (N : Nat) (h : pb_HP) (v0 : Nat) (v1 : Int32) (v2 : Int32) : Option (Int32) :=
  (pb_wl (f_204_5s N h v0 v1 v2) N ((0, 0))).bind fun e7 => (some e7)
set_option maxRecDepth 4000 in
theorem l_204 {xs : List Int32} {d : Nat} {N : Nat} {h : pb_HP} {v0 : Nat} {v1 : Int32} {v2 : Int32} {r : Int32} (hf : f_204 N h v0 v1 v2 = some r) : pb_AR xs (d + 2) 204 h [.ref v0, .int v1, .int v2] (some (.int r)) h := by
  intro G hG
  have hc_ : pb_CODE 204 = kc_204 := rfl
  rw [hc_] at hG
  have hl_5 : ∀ (v0 : Nat) (v1 : Int32) (v2 : Int32) (n_ : Nat) (s : Int32 × Int32) (e : Int32), pb_wl (f_204_5s N h v0 v1 v2) n_ s = some e → G 46 [(3, .int e)] [] h → G 5 [(0, .ref v0), (1, .int v1), (2, .int v2), (3, .int s.1), (4, .int s.2)] [] h := by
    intro v0 v1 v2
    refine pb_wl_ind (I := fun (s : Int32 × Int32) => G 5 [(0, .ref v0), (1, .int v1), (2, .int v2), (3, .int s.1), (4, .int s.2)] [] h) (K := fun (e : Int32) => G 46 [(3, .int e)] [] h) (fun s x hf hk => ?_)
    unfold f_204_5s at hf
    refine hG.1 1 5 kb_204_5 _ _ _ rfl ?_
    refine And.intro (fun (hc6 : 6 ≤ s.2) => ?_) (fun (hc6 : ¬ (6 ≤ s.2)) => ?_)
    · rw [if_pos hc6] at hf
      cases hf
      exact hG.2 46 _ [3] _ _ _ rfl hk
    · rw [if_neg hc6] at hf
      obtain ⟨r1, cr1, hf⟩ := Option.bind_eq_some_iff.mp hf
      refine And.intro (Nat.le_of_ble_eq_true rfl) (And.intro (Nat.le_of_ble_eq_true rfl) (And.intro (Nat.le_of_ble_eq_true rfl) (Exists.intro (some (.int r1)) (Exists.intro _ (And.intro (l_169 cr1) (?_))))))
      refine And.intro (fun (hc5 : r1 = 0) => ?_) (fun (hc5 : ¬ (r1 = 0)) => ?_)
      · rw [if_pos hc5] at hf
        refine hG.1 2 37 kb_204_37 _ _ _ rfl ?_
        refine hG.1 3 38 kb_204_38 _ _ _ rfl ?_
        cases hf
        exact hk
      · rw [if_neg hc5] at hf
        obtain ⟨hg2, hf⟩ := pb_gd hf
        obtain ⟨q3, eq3, hf⟩ := Option.bind_eq_some_iff.mp hf
        obtain ⟨hg4, hf⟩ := pb_gd hf
        refine And.intro hg2 (Exists.intro q3 (And.intro eq3 (And.intro hg4 (?_))))
        refine hG.1 3 38 kb_204_38 _ _ _ rfl ?_
        cases hf
        exact hk
  unfold f_204 at hf
  refine hG.1 0 0 kb_204_0 _ _ _ rfl ?_
  obtain ⟨e7, he_e7, hf⟩ := Option.bind_eq_some_iff.mp hf
  refine hl_5 _ _ _ _ _ _ he_e7 ?_
  refine hG.1 4 46 kb_204_46 _ _ _ rfl ?_
  cases hf
  exact And.intro (fun z_ => absurd z_ (by decide)) (And.intro rfl rfl)
def f_209_23s (N : Nat) (h : pb_HP) (v0 : Nat) (v1 : Int32) (v2 : Int32) (v3 : Int32) (v4 : Int32) (s : Int32 × Int32) : Option ((Int32 × Int32) ⊕ (Int32)) :=
  if pb_is h v0 11 then (if (pb_I h v0 25) ≤ s.2 then (some (.inr s.1)) else ((f_169 v1 s.2).bind fun r3 => (if r3 = 0 then (some (.inl ((s.1 + 0, s.2 + 1)))) else ((f_202 h v0 s.2).bind fun r4 => (if r4 = 0 then (some (.inl ((s.1 + 0, s.2 + 1)))) else ((pb_R h v0 35).bind fun q5 => (if pb_ar h q5 12 s.2 then (if ¬ (pb_I h q5 s.2.toNatClampNeg) = v4 then (some (.inl ((s.1 + 0, s.2 + 1)))) else (some (.inl ((s.1 + 1, s.2 + 1))))) else none))))))) else none
def f_209_90 (N : Nat) (h : pb_HP) (v0 : Nat) (v1 : Int32) (v3 : Int32) (v4 : Int32) (v5 : Int32) (s0 : Int32) : Option ((Int32 × Int32 × Int32) ⊕ (Int32)) :=
  (f_170 v3 v5).bind fun r12 => (some (.inl ((s0, r12, v4 + 1))))
def f_209_8s (N : Nat) (h : pb_HP) (v0 : Nat) (v1 : Int32) (s : Int32 × Int32 × Int32) : Option ((Int32 × Int32 × Int32) ⊕ (Int32)) :=
  if pb_is h v0 11 then (if (pb_I h v0 24) ≤ s.2.2 then (some (.inr s.1)) else ((pb_wl (f_209_23s N h v0 v1 s.1 s.2.1 s.2.2) N ((0, 0))).bind fun e11 => (if e11 ≤ s.2.1 then (f_209_90 N h v0 v1 s.2.1 s.2.2 e11 s.1) else (f_209_90 N h v0 v1 s.2.1 s.2.2 e11 s.2.2)))) else none
/-- PointedBenchModel.pickOf -/
def f_209 (N : Nat) (h : pb_HP) (v0 : Nat) (v1 : Int32) : Option (Int32) :=
  (pb_wl (f_209_8s N h v0 v1) N ((6, 0, 0))).bind fun e15 => (some e15)
set_option maxRecDepth 4000 in
theorem l_209 {xs : List Int32} {d : Nat} {N : Nat} {h : pb_HP} {v0 : Nat} {v1 : Int32} {r : Int32} (hf : f_209 N h v0 v1 = some r) : pb_AR xs (d + 2) 209 h [.ref v0, .int v1] (some (.int r)) h := by
  intro G hG
  have hc_ : pb_CODE 209 = kc_209 := rfl
  rw [hc_] at hG
  have hl_23 : ∀ (v0 : Nat) (v1 : Int32) (v2 : Int32) (v3 : Int32) (v4 : Int32) (n_ : Nat) (s : Int32 × Int32) (e : Int32), pb_wl (f_209_23s N h v0 v1 v2 v3 v4) n_ s = some e → G 78 [(0, .ref v0), (1, .int v1), (2, .int v2), (3, .int v3), (4, .int v4), (5, .int e)] [] h → G 23 [(0, .ref v0), (1, .int v1), (2, .int v2), (3, .int v3), (4, .int v4), (5, .int s.1), (6, .int s.2)] [] h := by
    intro v0 v1 v2 v3 v4
    refine pb_wl_ind (I := fun (s : Int32 × Int32) => G 23 [(0, .ref v0), (1, .int v1), (2, .int v2), (3, .int v3), (4, .int v4), (5, .int s.1), (6, .int s.2)] [] h) (K := fun (e : Int32) => G 78 [(0, .ref v0), (1, .int v1), (2, .int v2), (3, .int v3), (4, .int v4), (5, .int e)] [] h) (fun s x hf hk => ?_)
    unfold f_209_23s at hf
    refine hG.1 2 23 kb_209_23 _ _ _ rfl ?_
    obtain ⟨hg2, hf⟩ := pb_gd hf
    refine And.intro hg2 (?_)
    refine And.intro (fun (hc10 : (pb_I h v0 25) ≤ s.2) => ?_) (fun (hc10 : ¬ ((pb_I h v0 25) ≤ s.2)) => ?_)
    · rw [if_pos hc10] at hf
      cases hf
      exact hG.2 78 _ [0, 1, 2, 3, 4, 5] _ _ _ rfl hk
    · rw [if_neg hc10] at hf
      obtain ⟨r3, cr3, hf⟩ := Option.bind_eq_some_iff.mp hf
      refine And.intro (Nat.le_of_ble_eq_true rfl) (And.intro (Nat.le_of_ble_eq_true rfl) (And.intro (Nat.le_of_ble_eq_true rfl) (Exists.intro (some (.int r3)) (Exists.intro _ (And.intro (l_169 cr3) (?_))))))
      refine And.intro (fun (hc9 : r3 = 0) => ?_) (fun (hc9 : ¬ (r3 = 0)) => ?_)
      · rw [if_pos hc9] at hf
        refine hG.1 3 68 kb_209_68 _ _ _ rfl ?_
        refine hG.1 4 69 kb_209_69 _ _ _ rfl ?_
        cases hf
        exact hk
      · rw [if_neg hc9] at hf
        obtain ⟨r4, cr4, hf⟩ := Option.bind_eq_some_iff.mp hf
        refine And.intro hg2 (And.intro (Nat.le_of_ble_eq_true rfl) (And.intro (Nat.le_of_ble_eq_true rfl) (Exists.intro (some (.int r4)) (Exists.intro _ (And.intro (l_202 cr4) (?_))))))
        refine And.intro (fun (hc8 : r4 = 0) => ?_) (fun (hc8 : ¬ (r4 = 0)) => ?_)
        · rw [if_pos hc8] at hf
          refine hG.1 3 68 kb_209_68 _ _ _ rfl ?_
          refine hG.1 4 69 kb_209_69 _ _ _ rfl ?_
          cases hf
          exact hk
        · rw [if_neg hc8] at hf
          obtain ⟨q5, eq5, hf⟩ := Option.bind_eq_some_iff.mp hf
          obtain ⟨hg6, hf⟩ := pb_gd hf
          refine And.intro hg2 (Exists.intro q5 (And.intro eq5 (And.intro hg6 (?_))))
          refine And.intro (fun (hc7 : ¬ (pb_I h q5 s.2.toNatClampNeg) = v4) => ?_) (fun (hc7 : ¬ (¬ (pb_I h q5 s.2.toNatClampNeg) = v4)) => ?_)
          · rw [if_pos hc7] at hf
            refine hG.1 3 68 kb_209_68 _ _ _ rfl ?_
            refine hG.1 4 69 kb_209_69 _ _ _ rfl ?_
            cases hf
            exact hk
          · rw [if_neg hc7] at hf
            refine hG.1 4 69 kb_209_69 _ _ _ rfl ?_
            cases hf
            exact hk
  have hj_90 : ∀ (v0 : Nat) (v1 : Int32) (v3 : Int32) (v4 : Int32) (v5 : Int32) (s0 : Int32) x, f_209_90 N h v0 v1 v3 v4 v5 s0 = some x → pb_kk (fun (s_ : Int32 × Int32 × Int32) => G 8 [(0, .ref v0), (1, .int v1), (2, .int s_.1), (3, .int s_.2.1), (4, .int s_.2.2)] [] h) (fun (e_ : Int32) => G 104 [(2, .int e_)] [] h) x → G 90 [(0, .ref v0), (1, .int v1), (3, .int v3), (4, .int v4), (5, .int v5)] [.int s0] h := by
    intro v0 v1 v3 v4 v5 s0 x hf hk
    unfold f_209_90 at hf
    refine hG.1 7 90 kb_209_90 _ _ _ rfl ?_
    obtain ⟨r12, cr12, hf⟩ := Option.bind_eq_some_iff.mp hf
    refine And.intro (Nat.le_of_ble_eq_true rfl) (And.intro (Nat.le_of_ble_eq_true rfl) (And.intro (Nat.le_of_ble_eq_true rfl) (Exists.intro (some (.int r12)) (Exists.intro _ (And.intro (l_170 cr12) (?_))))))
    cases hf
    exact hG.2 8 _ [0, 1, 5, 2, 3] _ _ _ rfl hk
  have hl_8 : ∀ (v0 : Nat) (v1 : Int32) (n_ : Nat) (s : Int32 × Int32 × Int32) (e : Int32), pb_wl (f_209_8s N h v0 v1) n_ s = some e → G 104 [(2, .int e)] [] h → G 8 [(0, .ref v0), (1, .int v1), (2, .int s.1), (3, .int s.2.1), (4, .int s.2.2)] [] h := by
    intro v0 v1
    refine pb_wl_ind (I := fun (s : Int32 × Int32 × Int32) => G 8 [(0, .ref v0), (1, .int v1), (2, .int s.1), (3, .int s.2.1), (4, .int s.2.2)] [] h) (K := fun (e : Int32) => G 104 [(2, .int e)] [] h) (fun s x hf hk => ?_)
    unfold f_209_8s at hf
    refine hG.1 1 8 kb_209_8 _ _ _ rfl ?_
    obtain ⟨hg1, hf⟩ := pb_gd hf
    refine And.intro hg1 (?_)
    refine And.intro (fun (hc14 : (pb_I h v0 24) ≤ s.2.2) => ?_) (fun (hc14 : ¬ ((pb_I h v0 24) ≤ s.2.2)) => ?_)
    · rw [if_pos hc14] at hf
      cases hf
      exact hG.2 104 _ [2] _ _ _ rfl hk
    · rw [if_neg hc14] at hf
      obtain ⟨e11, he_e11, hf⟩ := Option.bind_eq_some_iff.mp hf
      refine hl_23 _ _ _ _ _ _ _ _ he_e11 ?_
      refine hG.1 5 78 kb_209_78 _ _ _ rfl ?_
      refine And.intro (fun (hc13 : e11 ≤ s.2.1) => ?_) (fun (hc13 : ¬ (e11 ≤ s.2.1)) => ?_)
      · rw [if_pos hc13] at hf
        refine hG.1 6 89 kb_209_89 _ _ _ rfl ?_
        refine hG.2 90 _ [0, 1, 3, 4, 5] _ _ _ rfl ?_
        exact hj_90 _ _ _ _ _ _ _ hf hk
      · rw [if_neg hc13] at hf
        refine hG.2 90 _ [0, 1, 3, 4, 5] _ _ _ rfl ?_
        exact hj_90 _ _ _ _ _ _ _ hf hk
  unfold f_209 at hf
  refine hG.1 0 0 kb_209_0 _ _ _ rfl ?_
  obtain ⟨e15, he_e15, hf⟩ := Option.bind_eq_some_iff.mp hf
  refine hl_8 _ _ _ _ _ he_e15 ?_
  refine hG.1 8 104 kb_209_104 _ _ _ rfl ?_
  cases hf
  exact And.intro (fun z_ => absurd z_ (by decide)) (And.intro rfl rfl)
/-- PointedBenchModel.getsOut -/
def f_216 (h : pb_HP) (v0 : Nat) (v1 : Int32) : Option (Int32 × pb_HP) :=
  if pb_is h v0 11 then ((pb_R h v0 32).bind fun q2 => (if pb_ar h q2 12 v1 then (if (pb_I h q2 v1.toNatClampNeg) = 0 then (some ((0, h))) else (if (pb_I h v0 27) = 6 then (some ((0, h))) else ((f_197 h v0 (2 + (pb_I h v0 27))).bind fun r4 => (if (pb_I h q2 v1.toNatClampNeg) ≤ (10 * r4) then (some ((1, pb_pI (pb_pI h q2 v1.toNatClampNeg 0) v0 29 ((pb_I (pb_pI h q2 v1.toNatClampNeg 0) v0 29) + 1)))) else (some ((0, h))))))) else none)) else none
set_option maxRecDepth 4000 in
theorem l_216 {xs : List Int32} {d : Nat} {h : pb_HP} {v0 : Nat} {v1 : Int32} {r : Int32} {hE : pb_HP} (hf : f_216 h v0 v1 = some ((r, hE))) : pb_AR xs (d + 2) 216 h [.ref v0, .int v1] (some (.int r)) hE := by
  intro G hG
  have hc_ : pb_CODE 216 = kc_216 := rfl
  rw [hc_] at hG
  unfold f_216 at hf
  refine hG.1 0 0 kb_216_0 _ _ _ rfl ?_
  obtain ⟨hg1, hf⟩ := pb_gd hf
  obtain ⟨q2, eq2, hf⟩ := Option.bind_eq_some_iff.mp hf
  obtain ⟨hg3, hf⟩ := pb_gd hf
  refine And.intro hg1 (Exists.intro q2 (And.intro eq2 (And.intro hg3 (?_))))
  refine And.intro (fun (hc7 : (pb_I h q2 v1.toNatClampNeg) = 0) => ?_) (fun (hc7 : ¬ ((pb_I h q2 v1.toNatClampNeg) = 0)) => ?_)
  · rw [if_pos hc7] at hf
    refine hG.1 1 40 kb_216_40 _ _ _ rfl ?_
    cases hf
    exact And.intro (fun _ => Or.inl rfl) (And.intro rfl rfl)
  · rw [if_neg hc7] at hf
    refine And.intro hg1 (?_)
    refine And.intro (fun (hc6 : (pb_I h v0 27) = 6) => ?_) (fun (hc6 : ¬ ((pb_I h v0 27) = 6)) => ?_)
    · rw [if_pos hc6] at hf
      refine hG.1 1 40 kb_216_40 _ _ _ rfl ?_
      cases hf
      exact And.intro (fun _ => Or.inl rfl) (And.intro rfl rfl)
    · rw [if_neg hc6] at hf
      refine And.intro hg1 (?_)
      obtain ⟨r4, cr4, hf⟩ := Option.bind_eq_some_iff.mp hf
      refine And.intro hg1 (And.intro (Nat.le_of_ble_eq_true rfl) (And.intro (Nat.le_of_ble_eq_true rfl) (Exists.intro (some (.int r4)) (Exists.intro _ (And.intro (l_197 cr4) (?_))))))
      refine And.intro hg1 (Exists.intro q2 (And.intro eq2 (And.intro hg3 (?_))))
      refine And.intro (fun (hc5 : (pb_I h q2 v1.toNatClampNeg) ≤ (10 * r4)) => ?_) (fun (hc5 : ¬ ((pb_I h q2 v1.toNatClampNeg) ≤ (10 * r4))) => ?_)
      · rw [if_pos hc5] at hf
        refine hG.1 2 42 kb_216_42 _ _ _ rfl ?_
        refine And.intro hg1 (Exists.intro q2 (And.intro eq2 (And.intro hg3 (And.intro hg1 (And.intro hg1 (?_))))))
        cases hf
        exact And.intro (fun _ => Or.inr rfl) (And.intro rfl rfl)
      · rw [if_neg hc5] at hf
        refine hG.1 1 40 kb_216_40 _ _ _ rfl ?_
        cases hf
        exact And.intro (fun _ => Or.inl rfl) (And.intro rfl rfl)
def f_217_61 (N : Nat) (h : pb_HP) (v0 : Nat) (v1 : Int32) (s0 : Int32) (s1 : Int32) (s2 : Int32) (s3 : Nat) : Option ((Int32 × pb_HP) ⊕ (pb_HP)) :=
  if pb_ar h s3 12 s2 then (some (.inl ((v1 + 1, pb_pI h s3 s2.toNatClampNeg (s1 - s0))))) else none
def f_217_13s (N : Nat) (v0 : Nat) (s : Int32 × pb_HP) : Option ((Int32 × pb_HP) ⊕ (pb_HP)) :=
  if pb_is s.2 v0 11 then (if (pb_I s.2 v0 25) ≤ s.1 then (some (.inr s.2)) else ((pb_R s.2 v0 31).bind fun q3 => (if pb_ar s.2 q3 12 s.1 then ((f_171 99 ((pb_I s.2 q3 s.1.toNatClampNeg) + 1)).bind fun r5 => ((pb_R s.2 v0 32).bind fun q6 => (if pb_ar s.2 q6 12 s.1 then (if (pb_I (pb_pI s.2 q3 s.1.toNatClampNeg r5) q6 s.1.toNatClampNeg) ≤ 0 then (f_217_61 N (pb_pI s.2 q3 s.1.toNatClampNeg r5) v0 s.1 0 (pb_I (pb_pI s.2 q3 s.1.toNatClampNeg r5) q6 s.1.toNatClampNeg) s.1 q6) else (f_217_61 N (pb_pI s.2 q3 s.1.toNatClampNeg r5) v0 s.1 1 (pb_I (pb_pI s.2 q3 s.1.toNatClampNeg r5) q6 s.1.toNatClampNeg) s.1 q6)) else none))) else none))) else none
/-- PointedBenchModel.goesOn -/
def f_217 (N : Nat) (h : pb_HP) (v0 : Nat) : Option (Int32 × pb_HP) :=
  if pb_is h v0 11 then (if ¬ (pb_I h v0 26) = 99 then ((pb_wl (f_217_13s N v0) N ((0, h))).bind fun e11 => (if pb_is e11 v0 11 then (some ((1, pb_pI e11 v0 26 ((pb_I e11 v0 26) + 1)))) else none)) else (some ((0, h)))) else none
set_option maxRecDepth 4000 in
theorem l_217 {xs : List Int32} {d : Nat} {N : Nat} {h : pb_HP} {v0 : Nat} {r : Int32} {hE : pb_HP} (hf : f_217 N h v0 = some ((r, hE))) : pb_AR xs (d + 2) 217 h [.ref v0] (some (.int r)) hE := by
  intro G hG
  have hc_ : pb_CODE 217 = kc_217 := rfl
  rw [hc_] at hG
  have hj_61 : ∀ (h : pb_HP) (v0 : Nat) (v1 : Int32) (s0 : Int32) (s1 : Int32) (s2 : Int32) (s3 : Nat) x, f_217_61 N h v0 v1 s0 s1 s2 s3 = some x → pb_kk (fun (s_ : Int32 × pb_HP) => G 13 [(0, .ref v0), (1, .int s_.1)] [] s_.2) (fun (e_ : pb_HP) => G 69 [(0, .ref v0)] [] e_) x → G 61 [(0, .ref v0), (1, .int v1)] [.int s0, .int s1, .int s2, .ref s3] h := by
    intro h v0 v1 s0 s1 s2 s3 x hf hk
    unfold f_217_61 at hf
    refine hG.1 4 61 kb_217_61 _ _ _ rfl ?_
    obtain ⟨hg8, hf⟩ := pb_gd hf
    refine And.intro hg8 (?_)
    cases hf
    exact hk
  have hl_13 : ∀ (v0 : Nat) (n_ : Nat) (s : Int32 × pb_HP) (e : pb_HP), pb_wl (f_217_13s N v0) n_ s = some e → G 69 [(0, .ref v0)] [] e → G 13 [(0, .ref v0), (1, .int s.1)] [] s.2 := by
    intro v0
    refine pb_wl_ind (I := fun (s : Int32 × pb_HP) => G 13 [(0, .ref v0), (1, .int s.1)] [] s.2) (K := fun (e : pb_HP) => G 69 [(0, .ref v0)] [] e) (fun s x hf hk => ?_)
    unfold f_217_13s at hf
    refine hG.1 2 13 kb_217_13 _ _ _ rfl ?_
    obtain ⟨hg2, hf⟩ := pb_gd hf
    refine And.intro hg2 (?_)
    refine And.intro (fun (hc10 : (pb_I s.2 v0 25) ≤ s.1) => ?_) (fun (hc10 : ¬ ((pb_I s.2 v0 25) ≤ s.1)) => ?_)
    · rw [if_pos hc10] at hf
      cases hf
      exact hG.2 69 _ [0] _ _ _ rfl hk
    · rw [if_neg hc10] at hf
      obtain ⟨q3, eq3, hf⟩ := Option.bind_eq_some_iff.mp hf
      obtain ⟨hg4, hf⟩ := pb_gd hf
      refine And.intro hg2 (Exists.intro q3 (And.intro eq3 (And.intro hg2 (Exists.intro q3 (And.intro eq3 (And.intro hg4 (?_)))))))
      obtain ⟨r5, cr5, hf⟩ := Option.bind_eq_some_iff.mp hf
      refine And.intro (Nat.le_of_ble_eq_true rfl) (And.intro (Nat.le_of_ble_eq_true rfl) (And.intro (Nat.le_of_ble_eq_true rfl) (Exists.intro (some (.int r5)) (Exists.intro _ (And.intro (l_171 cr5) (?_))))))
      obtain ⟨q6, eq6, hf⟩ := Option.bind_eq_some_iff.mp hf
      obtain ⟨hg7, hf⟩ := pb_gd hf
      refine And.intro hg4 (And.intro hg2 (Exists.intro q6 (And.intro eq6 (And.intro hg7 (And.intro hg2 (Exists.intro q6 (And.intro eq6 (And.intro hg7 (?_)))))))))
      refine And.intro (fun (hc9 : (pb_I (pb_pI s.2 q3 s.1.toNatClampNeg r5) q6 s.1.toNatClampNeg) ≤ 0) => ?_) (fun (hc9 : ¬ ((pb_I (pb_pI s.2 q3 s.1.toNatClampNeg r5) q6 s.1.toNatClampNeg) ≤ 0)) => ?_)
      · rw [if_pos hc9] at hf
        refine hG.1 3 60 kb_217_60 _ _ _ rfl ?_
        exact hj_61 _ _ _ _ _ _ _ _ hf hk
      · rw [if_neg hc9] at hf
        exact hj_61 _ _ _ _ _ _ _ _ hf hk
  unfold f_217 at hf
  refine hG.1 0 0 kb_217_0 _ _ _ rfl ?_
  obtain ⟨hg1, hf⟩ := pb_gd hf
  refine And.intro hg1 (?_)
  refine And.intro (fun (hc13 : ¬ (pb_I h v0 26) = 99) => ?_) (fun (hc13 : ¬ (¬ (pb_I h v0 26) = 99)) => ?_)
  · rw [if_pos hc13] at hf
    refine hG.1 1 11 kb_217_11 _ _ _ rfl ?_
    obtain ⟨e11, he_e11, hf⟩ := Option.bind_eq_some_iff.mp hf
    refine hl_13 _ _ _ _ he_e11 ?_
    refine hG.1 5 69 kb_217_69 _ _ _ rfl ?_
    obtain ⟨hg12, hf⟩ := pb_gd hf
    refine And.intro hg12 (And.intro hg12 (?_))
    cases hf
    exact And.intro (fun _ => Or.inr rfl) (And.intro rfl rfl)
  · rw [if_neg hc13] at hf
    cases hf
    exact And.intro (fun _ => Or.inl rfl) (And.intro rfl rfl)
def f_233_10 (N : Nat) (v0 : Int64) (v2 : Int64) (s0 : Int64) : Option (Int64) :=
  (f_232 N v2 v0).bind fun r1 => (if ¬ r1 = 0 then (some (s0 / r1)) else none)
/-- PointedBenchModel.part -/
def f_233 (N : Nat) (v0 : Int64) (v2 : Int64) (v4 : Int32) : Option (Int64) :=
  if v4 = 0 then (f_233_10 N v0 v2 v0) else (f_233_10 N v0 v2 v2)
set_option maxRecDepth 4000 in
theorem l_233 {xs : List Int32} {d : Nat} {N : Nat} {h : pb_HP} {v0 : Int64} {v2 : Int64} {v4 : Int32} {r : Int64} (hf : f_233 N v0 v2 v4 = some r) : pb_AR xs (d + 2) 233 h [.long v0, .long v2, .int v4] (some (.long r)) h := by
  intro G hG
  have hc_ : pb_CODE 233 = kc_233 := rfl
  rw [hc_] at hG
  have hj_10 : ∀ (v0 : Int64) (v2 : Int64) (s0 : Int64), f_233_10 N v0 v2 s0 = some r → G 10 [(0, .long v0), (2, .long v2)] [.long s0] h := by
    intro v0 v2 s0 hf
    unfold f_233_10 at hf
    refine hG.1 2 10 kb_233_10 _ _ _ rfl ?_
    obtain ⟨r1, cr1, hf⟩ := Option.bind_eq_some_iff.mp hf
    refine And.intro (Nat.le_of_ble_eq_true rfl) (And.intro (Nat.le_of_ble_eq_true rfl) (And.intro (Nat.le_of_ble_eq_true rfl) (Exists.intro (some (.long r1)) (Exists.intro _ (And.intro (l_232 cr1) (?_))))))
    obtain ⟨hg2, hf⟩ := pb_gd hf
    refine And.intro hg2 (?_)
    cases hf
    exact And.intro rfl rfl
  unfold f_233 at hf
  refine hG.1 0 0 kb_233_0 _ _ _ rfl ?_
  refine And.intro (fun (hc3 : v4 = 0) => ?_) (fun (hc3 : ¬ (v4 = 0)) => ?_)
  · rw [if_pos hc3] at hf
    refine hG.1 1 9 kb_233_9 _ _ _ rfl ?_
    refine hG.2 10 _ [0, 1] _ _ _ rfl ?_
    exact hj_10 _ _ _ hf
  · rw [if_neg hc3] at hf
    refine hG.2 10 _ [0, 1] _ _ _ rfl ?_
    exact hj_10 _ _ _ hf
def f_248_4s (N : Nat) (v0 : Int32) (v1 : Int32) (s : Int32 × Int32) : Option ((Int32 × Int32) ⊕ (Int32)) :=
  if 6 ≤ s.2 then (some (.inr s.1)) else ((f_169 v1 s.2).bind fun r1 => (if r1 = 0 then (some (.inl ((s.1 + 0, s.2 + 1)))) else ((f_247 N v0 s.2).bind fun r2 => (some (.inl ((s.1 + r2, s.2 + 1)))))))
/-- PointedBenchModel.likingsOf -/
def f_248 (N : Nat) (v0 : Int32) (v1 : Int32) : Option (Int32) :=
  (pb_wl (f_248_4s N v0 v1) N ((0, 0))).bind fun e5 => (some e5)
set_option maxRecDepth 4000 in
theorem l_248 {xs : List Int32} {d : Nat} {N : Nat} {h : pb_HP} {v0 : Int32} {v1 : Int32} {r : Int32} (hf : f_248 N v0 v1 = some r) : pb_AR xs (d + 2) 248 h [.int v0, .int v1] (some (.int r)) h := by
  intro G hG
  have hc_ : pb_CODE 248 = kc_248 := rfl
  rw [hc_] at hG
  have hl_4 : ∀ (v0 : Int32) (v1 : Int32) (n_ : Nat) (s : Int32 × Int32) (e : Int32), pb_wl (f_248_4s N v0 v1) n_ s = some e → G 36 [(2, .int e)] [] h → G 4 [(0, .int v0), (1, .int v1), (2, .int s.1), (3, .int s.2)] [] h := by
    intro v0 v1
    refine pb_wl_ind (I := fun (s : Int32 × Int32) => G 4 [(0, .int v0), (1, .int v1), (2, .int s.1), (3, .int s.2)] [] h) (K := fun (e : Int32) => G 36 [(2, .int e)] [] h) (fun s x hf hk => ?_)
    unfold f_248_4s at hf
    refine hG.1 1 4 kb_248_4 _ _ _ rfl ?_
    refine And.intro (fun (hc4 : 6 ≤ s.2) => ?_) (fun (hc4 : ¬ (6 ≤ s.2)) => ?_)
    · rw [if_pos hc4] at hf
      cases hf
      exact hG.2 36 _ [2] _ _ _ rfl hk
    · rw [if_neg hc4] at hf
      obtain ⟨r1, cr1, hf⟩ := Option.bind_eq_some_iff.mp hf
      refine And.intro (Nat.le_of_ble_eq_true rfl) (And.intro (Nat.le_of_ble_eq_true rfl) (And.intro (Nat.le_of_ble_eq_true rfl) (Exists.intro (some (.int r1)) (Exists.intro _ (And.intro (l_169 cr1) (?_))))))
      refine And.intro (fun (hc3 : r1 = 0) => ?_) (fun (hc3 : ¬ (r1 = 0)) => ?_)
      · rw [if_pos hc3] at hf
        refine hG.1 2 27 kb_248_27 _ _ _ rfl ?_
        refine hG.1 3 28 kb_248_28 _ _ _ rfl ?_
        cases hf
        exact hk
      · rw [if_neg hc3] at hf
        obtain ⟨r2, cr2, hf⟩ := Option.bind_eq_some_iff.mp hf
        refine And.intro (Nat.le_of_ble_eq_true rfl) (And.intro (Nat.le_of_ble_eq_true rfl) (And.intro (Nat.le_of_ble_eq_true rfl) (Exists.intro (some (.int r2)) (Exists.intro _ (And.intro (l_247 cr2) (?_))))))
        refine hG.1 3 28 kb_248_28 _ _ _ rfl ?_
        cases hf
        exact hk
  unfold f_248 at hf
  refine hG.1 0 0 kb_248_0 _ _ _ rfl ?_
  obtain ⟨e5, he_e5, hf⟩ := Option.bind_eq_some_iff.mp hf
  refine hl_4 _ _ _ _ _ he_e5 ?_
  refine hG.1 4 36 kb_248_36 _ _ _ rfl ?_
  cases hf
  exact And.intro (fun z_ => absurd z_ (by decide)) (And.intro rfl rfl)
def f_254_24s (N : Nat) (h : pb_HP) (v0 : Nat) (v1 : Int32) (s : Int32 × Int32) : Option ((Int32 × Int32) ⊕ (Int32)) :=
  if pb_is h v0 11 then (if (pb_I h v0 41) ≤ s.2 then (some (.inr s.1)) else ((pb_R h v0 40).bind fun q6 => (if pb_ar h q6 12 s.2 then ((f_247 N (pb_I h q6 s.2.toNatClampNeg) v1).bind fun r8 => (if ¬ r8 = s.1 then (some (.inl (((-1), s.2 + 1)))) else (some (.inl ((s.1, s.2 + 1)))))) else none))) else none
/-- PointedBenchModel.sure -/
def f_254 (N : Nat) (h : pb_HP) (v0 : Nat) (v1 : Int32) : Option (Int32) :=
  if pb_is h v0 11 then (if ¬ (pb_I h v0 41) = 0 then ((pb_R h v0 40).bind fun q2 => (if pb_ar h q2 12 0 then ((f_247 N (pb_I h q2 (0 : Int32).toNatClampNeg) v1).bind fun r4 => ((pb_wl (f_254_24s N h v0 v1) N ((r4, 0))).bind fun e11 => (some e11))) else none)) else ((pb_wl (f_254_24s N h v0 v1) N (((-1), 0))).bind fun e12 => (some e12))) else none
set_option maxRecDepth 4000 in
theorem l_254 {xs : List Int32} {d : Nat} {N : Nat} {h : pb_HP} {v0 : Nat} {v1 : Int32} {r : Int32} (hf : f_254 N h v0 v1 = some r) : pb_AR xs (d + 2) 254 h [.ref v0, .int v1] (some (.int r)) h := by
  intro G hG
  have hc_ : pb_CODE 254 = kc_254 := rfl
  rw [hc_] at hG
  have hl_24 : ∀ (v0 : Nat) (v1 : Int32) (n_ : Nat) (s : Int32 × Int32) (e : Int32), pb_wl (f_254_24s N h v0 v1) n_ s = some e → G 58 [(2, .int e)] [] h → G 24 [(0, .ref v0), (1, .int v1), (2, .int s.1), (3, .int s.2)] [] h := by
    intro v0 v1
    refine pb_wl_ind (I := fun (s : Int32 × Int32) => G 24 [(0, .ref v0), (1, .int v1), (2, .int s.1), (3, .int s.2)] [] h) (K := fun (e : Int32) => G 58 [(2, .int e)] [] h) (fun s x hf hk => ?_)
    unfold f_254_24s at hf
    refine hG.1 3 24 kb_254_24 _ _ _ rfl ?_
    obtain ⟨hg5, hf⟩ := pb_gd hf
    refine And.intro hg5 (?_)
    refine And.intro (fun (hc10 : (pb_I h v0 41) ≤ s.2) => ?_) (fun (hc10 : ¬ ((pb_I h v0 41) ≤ s.2)) => ?_)
    · rw [if_pos hc10] at hf
      cases hf
      exact hG.2 58 _ [2] _ _ _ rfl hk
    · rw [if_neg hc10] at hf
      obtain ⟨q6, eq6, hf⟩ := Option.bind_eq_some_iff.mp hf
      obtain ⟨hg7, hf⟩ := pb_gd hf
      refine And.intro hg5 (Exists.intro q6 (And.intro eq6 (And.intro hg7 (?_))))
      obtain ⟨r8, cr8, hf⟩ := Option.bind_eq_some_iff.mp hf
      refine And.intro (Nat.le_of_ble_eq_true rfl) (And.intro (Nat.le_of_ble_eq_true rfl) (And.intro (Nat.le_of_ble_eq_true rfl) (Exists.intro (some (.int r8)) (Exists.intro _ (And.intro (l_247 cr8) (?_))))))
      refine And.intro (fun (hc9 : ¬ r8 = s.1) => ?_) (fun (hc9 : ¬ (¬ r8 = s.1)) => ?_)
      · rw [if_pos hc9] at hf
        refine hG.1 4 50 kb_254_50 _ _ _ rfl ?_
        refine hG.1 5 51 kb_254_51 _ _ _ rfl ?_
        cases hf
        exact hk
      · rw [if_neg hc9] at hf
        refine hG.1 5 51 kb_254_51 _ _ _ rfl ?_
        cases hf
        exact hk
  unfold f_254 at hf
  refine hG.1 0 0 kb_254_0 _ _ _ rfl ?_
  obtain ⟨hg1, hf⟩ := pb_gd hf
  refine And.intro hg1 (?_)
  refine And.intro (fun (hc13 : ¬ (pb_I h v0 41) = 0) => ?_) (fun (hc13 : ¬ (¬ (pb_I h v0 41) = 0)) => ?_)
  · rw [if_pos hc13] at hf
    refine hG.1 1 11 kb_254_11 _ _ _ rfl ?_
    obtain ⟨q2, eq2, hf⟩ := Option.bind_eq_some_iff.mp hf
    obtain ⟨hg3, hf⟩ := pb_gd hf
    refine And.intro hg1 (Exists.intro q2 (And.intro eq2 (And.intro hg3 (?_))))
    obtain ⟨r4, cr4, hf⟩ := Option.bind_eq_some_iff.mp hf
    refine And.intro (Nat.le_of_ble_eq_true rfl) (And.intro (Nat.le_of_ble_eq_true rfl) (And.intro (Nat.le_of_ble_eq_true rfl) (Exists.intro (some (.int r4)) (Exists.intro _ (And.intro (l_247 cr4) (?_))))))
    refine hG.1 2 21 kb_254_21 _ _ _ rfl ?_
    obtain ⟨e11, he_e11, hf⟩ := Option.bind_eq_some_iff.mp hf
    refine hl_24 _ _ _ _ _ he_e11 ?_
    refine hG.1 6 58 kb_254_58 _ _ _ rfl ?_
    cases hf
    exact And.intro (fun z_ => absurd z_ (by decide)) (And.intro rfl rfl)
  · rw [if_neg hc13] at hf
    refine hG.1 2 21 kb_254_21 _ _ _ rfl ?_
    obtain ⟨e12, he_e12, hf⟩ := Option.bind_eq_some_iff.mp hf
    refine hl_24 _ _ _ _ _ he_e12 ?_
    refine hG.1 6 58 kb_254_58 _ _ _ rfl ?_
    cases hf
    exact And.intro (fun z_ => absurd z_ (by decide)) (And.intro rfl rfl)
def f_264_18s (N : Nat) (h : pb_HP) (v0 : Nat) (v1 : Int32) (v2 : Int32) (v3 : Int32) (s : Int32 × Int32) : Option ((Int32 × Int32) ⊕ (Int32)) :=
  if pb_is h v0 11 then (if (pb_I h v0 25) ≤ s.2 then (some (.inr s.1)) else ((pb_R h v0 34).bind fun q2 => (if pb_ar h q2 12 ((6 * s.2) + v3) then (some (.inl ((s.1 + (pb_I h q2 ((6 * s.2) + v3).toNatClampNeg), s.2 + 1)))) else none))) else none
def f_264_61 (N : Nat) (h : pb_HP) (v0 : Nat) (v2 : Int32) (v3 : Int32) (v4 : Int32) (s0 : Int32) : Option ((Int32 × Int32 × Int32) ⊕ (Int32)) :=
  (f_170 v2 v4).bind fun r6 => (some (.inl ((s0, r6, v3 + 1))))
def f_264_6s (N : Nat) (h : pb_HP) (v0 : Nat) (s : Int32 × Int32 × Int32) : Option ((Int32 × Int32 × Int32) ⊕ (Int32)) :=
  if 6 ≤ s.2.2 then (some (.inr s.1)) else ((pb_wl (f_264_18s N h v0 s.1 s.2.1 s.2.2) N ((0, 0))).bind fun e5 => (if e5 ≤ s.2.1 then (f_264_61 N h v0 s.2.1 s.2.2 e5 s.1) else (f_264_61 N h v0 s.2.1 s.2.2 e5 s.2.2)))
/-- PointedBenchModel.sweetest -/
def f_264 (N : Nat) (h : pb_HP) (v0 : Nat) : Option (Int32) :=
  (pb_wl (f_264_6s N h v0) N ((0, (-1), 0))).bind fun e9 => (some e9)
set_option maxRecDepth 4000 in
theorem l_264 {xs : List Int32} {d : Nat} {N : Nat} {h : pb_HP} {v0 : Nat} {r : Int32} (hf : f_264 N h v0 = some r) : pb_AR xs (d + 2) 264 h [.ref v0] (some (.int r)) h := by
  intro G hG
  have hc_ : pb_CODE 264 = kc_264 := rfl
  rw [hc_] at hG
  have hl_18 : ∀ (v0 : Nat) (v1 : Int32) (v2 : Int32) (v3 : Int32) (n_ : Nat) (s : Int32 × Int32) (e : Int32), pb_wl (f_264_18s N h v0 v1 v2 v3) n_ s = some e → G 50 [(0, .ref v0), (1, .int v1), (2, .int v2), (3, .int v3), (4, .int e)] [] h → G 18 [(0, .ref v0), (1, .int v1), (2, .int v2), (3, .int v3), (4, .int s.1), (5, .int s.2)] [] h := by
    intro v0 v1 v2 v3
    refine pb_wl_ind (I := fun (s : Int32 × Int32) => G 18 [(0, .ref v0), (1, .int v1), (2, .int v2), (3, .int v3), (4, .int s.1), (5, .int s.2)] [] h) (K := fun (e : Int32) => G 50 [(0, .ref v0), (1, .int v1), (2, .int v2), (3, .int v3), (4, .int e)] [] h) (fun s x hf hk => ?_)
    unfold f_264_18s at hf
    refine hG.1 2 18 kb_264_18 _ _ _ rfl ?_
    obtain ⟨hg1, hf⟩ := pb_gd hf
    refine And.intro hg1 (?_)
    refine And.intro (fun (hc4 : (pb_I h v0 25) ≤ s.2) => ?_) (fun (hc4 : ¬ ((pb_I h v0 25) ≤ s.2)) => ?_)
    · rw [if_pos hc4] at hf
      cases hf
      exact hG.2 50 _ [0, 1, 2, 3, 4] _ _ _ rfl hk
    · rw [if_neg hc4] at hf
      obtain ⟨q2, eq2, hf⟩ := Option.bind_eq_some_iff.mp hf
      obtain ⟨hg3, hf⟩ := pb_gd hf
      refine And.intro hg1 (Exists.intro q2 (And.intro eq2 (And.intro hg3 (?_))))
      cases hf
      exact hk
  have hj_61 : ∀ (v0 : Nat) (v2 : Int32) (v3 : Int32) (v4 : Int32) (s0 : Int32) x, f_264_61 N h v0 v2 v3 v4 s0 = some x → pb_kk (fun (s_ : Int32 × Int32 × Int32) => G 6 [(0, .ref v0), (1, .int s_.1), (2, .int s_.2.1), (3, .int s_.2.2)] [] h) (fun (e_ : Int32) => G 75 [(1, .int e_)] [] h) x → G 61 [(0, .ref v0), (2, .int v2), (3, .int v3), (4, .int v4)] [.int s0] h := by
    intro v0 v2 v3 v4 s0 x hf hk
    unfold f_264_61 at hf
    refine hG.1 5 61 kb_264_61 _ _ _ rfl ?_
    obtain ⟨r6, cr6, hf⟩ := Option.bind_eq_some_iff.mp hf
    refine And.intro (Nat.le_of_ble_eq_true rfl) (And.intro (Nat.le_of_ble_eq_true rfl) (And.intro (Nat.le_of_ble_eq_true rfl) (Exists.intro (some (.int r6)) (Exists.intro _ (And.intro (l_170 cr6) (?_))))))
    cases hf
    exact hG.2 6 _ [0, 4, 1, 2] _ _ _ rfl hk
  have hl_6 : ∀ (v0 : Nat) (n_ : Nat) (s : Int32 × Int32 × Int32) (e : Int32), pb_wl (f_264_6s N h v0) n_ s = some e → G 75 [(1, .int e)] [] h → G 6 [(0, .ref v0), (1, .int s.1), (2, .int s.2.1), (3, .int s.2.2)] [] h := by
    intro v0
    refine pb_wl_ind (I := fun (s : Int32 × Int32 × Int32) => G 6 [(0, .ref v0), (1, .int s.1), (2, .int s.2.1), (3, .int s.2.2)] [] h) (K := fun (e : Int32) => G 75 [(1, .int e)] [] h) (fun s x hf hk => ?_)
    unfold f_264_6s at hf
    refine hG.1 1 6 kb_264_6 _ _ _ rfl ?_
    refine And.intro (fun (hc8 : 6 ≤ s.2.2) => ?_) (fun (hc8 : ¬ (6 ≤ s.2.2)) => ?_)
    · rw [if_pos hc8] at hf
      cases hf
      exact hG.2 75 _ [1] _ _ _ rfl hk
    · rw [if_neg hc8] at hf
      obtain ⟨e5, he_e5, hf⟩ := Option.bind_eq_some_iff.mp hf
      refine hl_18 _ _ _ _ _ _ _ he_e5 ?_
      refine hG.1 3 50 kb_264_50 _ _ _ rfl ?_
      refine And.intro (fun (hc7 : e5 ≤ s.2.1) => ?_) (fun (hc7 : ¬ (e5 ≤ s.2.1)) => ?_)
      · rw [if_pos hc7] at hf
        refine hG.1 4 60 kb_264_60 _ _ _ rfl ?_
        refine hG.2 61 _ [0, 2, 3, 4] _ _ _ rfl ?_
        exact hj_61 _ _ _ _ _ _ hf hk
      · rw [if_neg hc7] at hf
        refine hG.2 61 _ [0, 2, 3, 4] _ _ _ rfl ?_
        exact hj_61 _ _ _ _ _ _ hf hk
  unfold f_264 at hf
  refine hG.1 0 0 kb_264_0 _ _ _ rfl ?_
  obtain ⟨e9, he_e9, hf⟩ := Option.bind_eq_some_iff.mp hf
  refine hl_6 _ _ _ _ he_e9 ?_
  refine hG.1 6 75 kb_264_75 _ _ _ rfl ?_
  cases hf
  exact And.intro (fun z_ => absurd z_ (by decide)) (And.intro rfl rfl)
def f_265_20s (N : Nat) (h : pb_HP) (v0 : Nat) (v1 : Int32) (v2 : Int32) (v3 : Int32) (s : Int32 × Int32) : Option ((Int32 × Int32) ⊕ (Int32)) :=
  if pb_is h v0 11 then (if (pb_I h v0 24) ≤ s.2 then (some (.inr s.1)) else ((pb_R h v0 30).bind fun q2 => (if pb_ar h q2 12 s.2 then ((f_169 (pb_I h q2 s.2.toNatClampNeg) v3).bind fun r4 => (if r4 = 0 then (some (.inl ((s.1 + 0, s.2 + 1)))) else (some (.inl ((s.1 + 1, s.2 + 1)))))) else none))) else none
def f_265_70 (N : Nat) (h : pb_HP) (v0 : Nat) (v2 : Int32) (v3 : Int32) (v4 : Int32) (s0 : Int32) : Option ((Int32 × Int32 × Int32) ⊕ (Int32)) :=
  (f_171 v2 v4).bind fun r8 => (some (.inl ((s0, r8, v3 + 1))))
def f_265_8s (N : Nat) (h : pb_HP) (v0 : Nat) (s : Int32 × Int32 × Int32) : Option ((Int32 × Int32 × Int32) ⊕ (Int32)) :=
  if 6 ≤ s.2.2 then (some (.inr s.1)) else ((pb_wl (f_265_20s N h v0 s.1 s.2.1 s.2.2) N ((0, 0))).bind fun e7 => (if s.2.1 ≤ e7 then (f_265_70 N h v0 s.2.1 s.2.2 e7 s.1) else (f_265_70 N h v0 s.2.1 s.2.2 e7 s.2.2)))
/-- PointedBenchModel.rarest -/
def f_265 (N : Nat) (h : pb_HP) (v0 : Nat) : Option (Int32) :=
  (pb_wl (f_265_8s N h v0) N ((0, 1000000, 0))).bind fun e11 => (some e11)
set_option maxRecDepth 4000 in
theorem l_265 {xs : List Int32} {d : Nat} {N : Nat} {h : pb_HP} {v0 : Nat} {r : Int32} (hf : f_265 N h v0 = some r) : pb_AR xs (d + 2) 265 h [.ref v0] (some (.int r)) h := by
  intro G hG
  have hc_ : pb_CODE 265 = kc_265 := rfl
  rw [hc_] at hG
  have hl_20 : ∀ (v0 : Nat) (v1 : Int32) (v2 : Int32) (v3 : Int32) (n_ : Nat) (s : Int32 × Int32) (e : Int32), pb_wl (f_265_20s N h v0 v1 v2 v3) n_ s = some e → G 59 [(0, .ref v0), (1, .int v1), (2, .int v2), (3, .int v3), (4, .int e)] [] h → G 20 [(0, .ref v0), (1, .int v1), (2, .int v2), (3, .int v3), (4, .int s.1), (5, .int s.2)] [] h := by
    intro v0 v1 v2 v3
    refine pb_wl_ind (I := fun (s : Int32 × Int32) => G 20 [(0, .ref v0), (1, .int v1), (2, .int v2), (3, .int v3), (4, .int s.1), (5, .int s.2)] [] h) (K := fun (e : Int32) => G 59 [(0, .ref v0), (1, .int v1), (2, .int v2), (3, .int v3), (4, .int e)] [] h) (fun s x hf hk => ?_)
    unfold f_265_20s at hf
    refine hG.1 2 20 kb_265_20 _ _ _ rfl ?_
    obtain ⟨hg1, hf⟩ := pb_gd hf
    refine And.intro hg1 (?_)
    refine And.intro (fun (hc6 : (pb_I h v0 24) ≤ s.2) => ?_) (fun (hc6 : ¬ ((pb_I h v0 24) ≤ s.2)) => ?_)
    · rw [if_pos hc6] at hf
      cases hf
      exact hG.2 59 _ [0, 1, 2, 3, 4] _ _ _ rfl hk
    · rw [if_neg hc6] at hf
      obtain ⟨q2, eq2, hf⟩ := Option.bind_eq_some_iff.mp hf
      obtain ⟨hg3, hf⟩ := pb_gd hf
      refine And.intro hg1 (Exists.intro q2 (And.intro eq2 (And.intro hg3 (?_))))
      obtain ⟨r4, cr4, hf⟩ := Option.bind_eq_some_iff.mp hf
      refine And.intro (Nat.le_of_ble_eq_true rfl) (And.intro (Nat.le_of_ble_eq_true rfl) (And.intro (Nat.le_of_ble_eq_true rfl) (Exists.intro (some (.int r4)) (Exists.intro _ (And.intro (l_169 cr4) (?_))))))
      refine And.intro (fun (hc5 : r4 = 0) => ?_) (fun (hc5 : ¬ (r4 = 0)) => ?_)
      · rw [if_pos hc5] at hf
        refine hG.1 3 49 kb_265_49 _ _ _ rfl ?_
        refine hG.1 4 50 kb_265_50 _ _ _ rfl ?_
        cases hf
        exact hk
      · rw [if_neg hc5] at hf
        refine hG.1 4 50 kb_265_50 _ _ _ rfl ?_
        cases hf
        exact hk
  have hj_70 : ∀ (v0 : Nat) (v2 : Int32) (v3 : Int32) (v4 : Int32) (s0 : Int32) x, f_265_70 N h v0 v2 v3 v4 s0 = some x → pb_kk (fun (s_ : Int32 × Int32 × Int32) => G 8 [(0, .ref v0), (1, .int s_.1), (2, .int s_.2.1), (3, .int s_.2.2)] [] h) (fun (e_ : Int32) => G 84 [(1, .int e_)] [] h) x → G 70 [(0, .ref v0), (2, .int v2), (3, .int v3), (4, .int v4)] [.int s0] h := by
    intro v0 v2 v3 v4 s0 x hf hk
    unfold f_265_70 at hf
    refine hG.1 7 70 kb_265_70 _ _ _ rfl ?_
    obtain ⟨r8, cr8, hf⟩ := Option.bind_eq_some_iff.mp hf
    refine And.intro (Nat.le_of_ble_eq_true rfl) (And.intro (Nat.le_of_ble_eq_true rfl) (And.intro (Nat.le_of_ble_eq_true rfl) (Exists.intro (some (.int r8)) (Exists.intro _ (And.intro (l_171 cr8) (?_))))))
    cases hf
    exact hG.2 8 _ [0, 4, 1, 2] _ _ _ rfl hk
  have hl_8 : ∀ (v0 : Nat) (n_ : Nat) (s : Int32 × Int32 × Int32) (e : Int32), pb_wl (f_265_8s N h v0) n_ s = some e → G 84 [(1, .int e)] [] h → G 8 [(0, .ref v0), (1, .int s.1), (2, .int s.2.1), (3, .int s.2.2)] [] h := by
    intro v0
    refine pb_wl_ind (I := fun (s : Int32 × Int32 × Int32) => G 8 [(0, .ref v0), (1, .int s.1), (2, .int s.2.1), (3, .int s.2.2)] [] h) (K := fun (e : Int32) => G 84 [(1, .int e)] [] h) (fun s x hf hk => ?_)
    unfold f_265_8s at hf
    refine hG.1 1 8 kb_265_8 _ _ _ rfl ?_
    refine And.intro (fun (hc10 : 6 ≤ s.2.2) => ?_) (fun (hc10 : ¬ (6 ≤ s.2.2)) => ?_)
    · rw [if_pos hc10] at hf
      cases hf
      exact hG.2 84 _ [1] _ _ _ rfl hk
    · rw [if_neg hc10] at hf
      obtain ⟨e7, he_e7, hf⟩ := Option.bind_eq_some_iff.mp hf
      refine hl_20 _ _ _ _ _ _ _ he_e7 ?_
      refine hG.1 5 59 kb_265_59 _ _ _ rfl ?_
      refine And.intro (fun (hc9 : s.2.1 ≤ e7) => ?_) (fun (hc9 : ¬ (s.2.1 ≤ e7)) => ?_)
      · rw [if_pos hc9] at hf
        refine hG.1 6 69 kb_265_69 _ _ _ rfl ?_
        refine hG.2 70 _ [0, 2, 3, 4] _ _ _ rfl ?_
        exact hj_70 _ _ _ _ _ _ hf hk
      · rw [if_neg hc9] at hf
        refine hG.2 70 _ [0, 2, 3, 4] _ _ _ rfl ?_
        exact hj_70 _ _ _ _ _ _ hf hk
  unfold f_265 at hf
  refine hG.1 0 0 kb_265_0 _ _ _ rfl ?_
  obtain ⟨e11, he_e11, hf⟩ := Option.bind_eq_some_iff.mp hf
  refine hl_8 _ _ _ _ he_e11 ?_
  refine hG.1 8 84 kb_265_84 _ _ _ rfl ?_
  cases hf
  exact And.intro (fun z_ => absurd z_ (by decide)) (And.intro rfl rfl)
def f_267_4s (N : Nat) (h : pb_HP) (v0 : Nat) (v1 : Int32) (s : Int32 × Int32) : Option ((Int32 × Int32) ⊕ (Int32)) :=
  if pb_is h v0 11 then (if (pb_I h v0 24) ≤ s.2 then (some (.inr s.1)) else ((f_169 v1 s.2).bind fun r2 => (if r2 = 0 then (some (.inl ((s.1 ||| 0, s.2 + 1)))) else ((pb_R h v0 30).bind fun q3 => (if pb_ar h q3 12 s.2 then (some (.inl ((s.1 ||| (pb_I h q3 s.2.toNatClampNeg), s.2 + 1)))) else none))))) else none
/-- PointedBenchModel.traitsOf -/
def f_267 (N : Nat) (h : pb_HP) (v0 : Nat) (v1 : Int32) : Option (Int32) :=
  (pb_wl (f_267_4s N h v0 v1) N ((0, 0))).bind fun e7 => (some e7)
set_option maxRecDepth 4000 in
theorem l_267 {xs : List Int32} {d : Nat} {N : Nat} {h : pb_HP} {v0 : Nat} {v1 : Int32} {r : Int32} (hf : f_267 N h v0 v1 = some r) : pb_AR xs (d + 2) 267 h [.ref v0, .int v1] (some (.int r)) h := by
  intro G hG
  have hc_ : pb_CODE 267 = kc_267 := rfl
  rw [hc_] at hG
  have hl_4 : ∀ (v0 : Nat) (v1 : Int32) (n_ : Nat) (s : Int32 × Int32) (e : Int32), pb_wl (f_267_4s N h v0 v1) n_ s = some e → G 39 [(2, .int e)] [] h → G 4 [(0, .ref v0), (1, .int v1), (2, .int s.1), (3, .int s.2)] [] h := by
    intro v0 v1
    refine pb_wl_ind (I := fun (s : Int32 × Int32) => G 4 [(0, .ref v0), (1, .int v1), (2, .int s.1), (3, .int s.2)] [] h) (K := fun (e : Int32) => G 39 [(2, .int e)] [] h) (fun s x hf hk => ?_)
    unfold f_267_4s at hf
    refine hG.1 1 4 kb_267_4 _ _ _ rfl ?_
    obtain ⟨hg1, hf⟩ := pb_gd hf
    refine And.intro hg1 (?_)
    refine And.intro (fun (hc6 : (pb_I h v0 24) ≤ s.2) => ?_) (fun (hc6 : ¬ ((pb_I h v0 24) ≤ s.2)) => ?_)
    · rw [if_pos hc6] at hf
      cases hf
      exact hG.2 39 _ [2] _ _ _ rfl hk
    · rw [if_neg hc6] at hf
      obtain ⟨r2, cr2, hf⟩ := Option.bind_eq_some_iff.mp hf
      refine And.intro (Nat.le_of_ble_eq_true rfl) (And.intro (Nat.le_of_ble_eq_true rfl) (And.intro (Nat.le_of_ble_eq_true rfl) (Exists.intro (some (.int r2)) (Exists.intro _ (And.intro (l_169 cr2) (?_))))))
      refine And.intro (fun (hc5 : r2 = 0) => ?_) (fun (hc5 : ¬ (r2 = 0)) => ?_)
      · rw [if_pos hc5] at hf
        refine hG.1 2 30 kb_267_30 _ _ _ rfl ?_
        refine hG.1 3 31 kb_267_31 _ _ _ rfl ?_
        cases hf
        exact hk
      · rw [if_neg hc5] at hf
        obtain ⟨q3, eq3, hf⟩ := Option.bind_eq_some_iff.mp hf
        obtain ⟨hg4, hf⟩ := pb_gd hf
        refine And.intro hg1 (Exists.intro q3 (And.intro eq3 (And.intro hg4 (?_))))
        refine hG.1 3 31 kb_267_31 _ _ _ rfl ?_
        cases hf
        exact hk
  unfold f_267 at hf
  refine hG.1 0 0 kb_267_0 _ _ _ rfl ?_
  obtain ⟨e7, he_e7, hf⟩ := Option.bind_eq_some_iff.mp hf
  refine hl_4 _ _ _ _ _ he_e7 ?_
  refine hG.1 4 39 kb_267_39 _ _ _ rfl ?_
  cases hf
  exact And.intro (fun z_ => absurd z_ (by decide)) (And.intro rfl rfl)
def f_269_4s (N : Nat) (h : pb_HP) (v0 : Nat) (s : Int32 × Int32) : Option ((Int32 × Int32) ⊕ (Int32)) :=
  if pb_is h v0 11 then (if (pb_I h v0 25) ≤ s.2 then (some (.inr s.1)) else ((pb_R h v0 32).bind fun q2 => (if pb_ar h q2 12 s.2 then ((f_170 s.1 (pb_I h q2 s.2.toNatClampNeg)).bind fun r4 => (some (.inl ((r4, s.2 + 1))))) else none))) else none
/-- PointedBenchModel.longest -/
def f_269 (N : Nat) (h : pb_HP) (v0 : Nat) : Option (Int32) :=
  (pb_wl (f_269_4s N h v0) N ((0, 0))).bind fun e6 => (some e6)
set_option maxRecDepth 4000 in
theorem l_269 {xs : List Int32} {d : Nat} {N : Nat} {h : pb_HP} {v0 : Nat} {r : Int32} (hf : f_269 N h v0 = some r) : pb_AR xs (d + 2) 269 h [.ref v0] (some (.int r)) h := by
  intro G hG
  have hc_ : pb_CODE 269 = kc_269 := rfl
  rw [hc_] at hG
  have hl_4 : ∀ (v0 : Nat) (n_ : Nat) (s : Int32 × Int32) (e : Int32), pb_wl (f_269_4s N h v0) n_ s = some e → G 29 [(1, .int e)] [] h → G 4 [(0, .ref v0), (1, .int s.1), (2, .int s.2)] [] h := by
    intro v0
    refine pb_wl_ind (I := fun (s : Int32 × Int32) => G 4 [(0, .ref v0), (1, .int s.1), (2, .int s.2)] [] h) (K := fun (e : Int32) => G 29 [(1, .int e)] [] h) (fun s x hf hk => ?_)
    unfold f_269_4s at hf
    refine hG.1 1 4 kb_269_4 _ _ _ rfl ?_
    obtain ⟨hg1, hf⟩ := pb_gd hf
    refine And.intro hg1 (?_)
    refine And.intro (fun (hc5 : (pb_I h v0 25) ≤ s.2) => ?_) (fun (hc5 : ¬ ((pb_I h v0 25) ≤ s.2)) => ?_)
    · rw [if_pos hc5] at hf
      cases hf
      exact hG.2 29 _ [1] _ _ _ rfl hk
    · rw [if_neg hc5] at hf
      obtain ⟨q2, eq2, hf⟩ := Option.bind_eq_some_iff.mp hf
      obtain ⟨hg3, hf⟩ := pb_gd hf
      refine And.intro hg1 (Exists.intro q2 (And.intro eq2 (And.intro hg3 (?_))))
      obtain ⟨r4, cr4, hf⟩ := Option.bind_eq_some_iff.mp hf
      refine And.intro (Nat.le_of_ble_eq_true rfl) (And.intro (Nat.le_of_ble_eq_true rfl) (And.intro (Nat.le_of_ble_eq_true rfl) (Exists.intro (some (.int r4)) (Exists.intro _ (And.intro (l_170 cr4) (?_))))))
      cases hf
      exact hk
  unfold f_269 at hf
  refine hG.1 0 0 kb_269_0 _ _ _ rfl ?_
  obtain ⟨e6, he_e6, hf⟩ := Option.bind_eq_some_iff.mp hf
  refine hl_4 _ _ _ _ he_e6 ?_
  refine hG.1 2 29 kb_269_29 _ _ _ rfl ?_
  cases hf
  exact And.intro (fun z_ => absurd z_ (by decide)) (And.intro rfl rfl)
def f_282_7s (N : Nat) (h : pb_HP) (v0 : Nat) (s : Int32) : Option ((Int32) ⊕ (Int32)) :=
  if s < 0 then (some (.inr s)) else (if pb_is h v0 11 then ((pb_R h v0 43).bind fun q3 => (if pb_ar h q3 12 s then (if pb_ar h q3 12 (s + 1) then (if (pb_I h q3 s.toNatClampNeg) ≤ (pb_I h q3 (s + 1).toNatClampNeg) then (some (.inr s)) else (some (.inl (s + (-1))))) else none) else none)) else none)
def f_282_47s (N : Nat) (h : pb_HP) (v0 : Nat) (v1 : Int32) (s : Int32) : Option ((Int32) ⊕ (Int32)) :=
  if pb_is h v0 11 then ((pb_R h v0 43).bind fun q11 => (if pb_ar h q11 12 s then (if pb_ar h q11 12 v1 then (if (pb_I h q11 v1.toNatClampNeg) ≤ (pb_I h q11 s.toNatClampNeg) then (some (.inr s)) else (some (.inl (s + (-1))))) else none) else none)) else none
def f_282_84s (N : Nat) (v0 : Nat) (s : Int32 × Int32 × pb_HP) : Option ((Int32 × Int32 × pb_HP) ⊕ (pb_HP)) :=
  if s.2.1 ≤ s.1 then (some (.inr s.2.2)) else (if pb_is s.2.2 v0 11 then ((f_281 s.2.2 v0 s.1 s.2.1).bind fun h21 => (some (.inl ((s.1 + 1, s.2.1 + (-1), h21))))) else none)
def f_282_34 (N : Nat) (h : pb_HP) (v0 : Nat) (v1 : Int32) : Option (Int32 × pb_HP) :=
  if 0 ≤ v1 then (if pb_is h v0 11 then ((pb_wl (f_282_47s N h v0 v1) N ((pb_I h v0 24) - 1)).bind fun e15 => ((f_281 h v0 v1 e15).bind fun h17 => (if pb_is h17 v0 11 then ((pb_wl (f_282_84s N v0) N ((v1 + 1, (pb_I h17 v0 24) - 1, h17))).bind fun e23 => (some ((1, e23)))) else none))) else none) else (some ((0, h)))
/-- PointedBenchModel.nextRow -/
def f_282 (N : Nat) (h : pb_HP) (v0 : Nat) : Option (Int32 × pb_HP) :=
  if pb_is h v0 11 then ((pb_wl (f_282_7s N h v0) N ((pb_I h v0 24) - 2)).bind fun e8 => (f_282_34 N h v0 e8)) else none
set_option maxRecDepth 4000 in
theorem l_282 {xs : List Int32} {d : Nat} {N : Nat} {h : pb_HP} {v0 : Nat} {r : Int32} {hE : pb_HP} (hf : f_282 N h v0 = some ((r, hE))) : pb_AR xs (d + 2) 282 h [.ref v0] (some (.int r)) hE := by
  intro G hG
  have hc_ : pb_CODE 282 = kc_282 := rfl
  rw [hc_] at hG
  have hl_7 : ∀ (h : pb_HP) (v0 : Nat) (n_ : Nat) (s : Int32) (e : Int32), pb_wl (f_282_7s N h v0) n_ s = some e → G 34 [(0, .ref v0), (1, .int e)] [] h → G 7 [(0, .ref v0), (1, .int s)] [] h := by
    intro h v0
    refine pb_wl_ind (I := fun (s : Int32) => G 7 [(0, .ref v0), (1, .int s)] [] h) (K := fun (e : Int32) => G 34 [(0, .ref v0), (1, .int e)] [] h) (fun s x hf hk => ?_)
    unfold f_282_7s at hf
    refine hG.1 1 7 kb_282_7 _ _ _ rfl ?_
    refine And.intro (fun (hc7 : s < 0) => ?_) (fun (hc7 : ¬ (s < 0)) => ?_)
    · rw [if_pos hc7] at hf
      cases hf
      exact hk
    · rw [if_neg hc7] at hf
      obtain ⟨hg2, hf⟩ := pb_gd hf
      obtain ⟨q3, eq3, hf⟩ := Option.bind_eq_some_iff.mp hf
      obtain ⟨hg4, hf⟩ := pb_gd hf
      obtain ⟨hg5, hf⟩ := pb_gd hf
      refine And.intro hg2 (Exists.intro q3 (And.intro eq3 (And.intro hg4 (And.intro hg2 (Exists.intro q3 (And.intro eq3 (And.intro hg5 (?_))))))))
      refine And.intro (fun (hc6 : (pb_I h q3 s.toNatClampNeg) ≤ (pb_I h q3 (s + 1).toNatClampNeg)) => ?_) (fun (hc6 : ¬ ((pb_I h q3 s.toNatClampNeg) ≤ (pb_I h q3 (s + 1).toNatClampNeg))) => ?_)
      · rw [if_pos hc6] at hf
        cases hf
        exact hk
      · rw [if_neg hc6] at hf
        cases hf
        exact hk
  have hl_47 : ∀ (h : pb_HP) (v0 : Nat) (v1 : Int32) (n_ : Nat) (s : Int32) (e : Int32), pb_wl (f_282_47s N h v0 v1) n_ s = some e → G 68 [(0, .ref v0), (1, .int v1), (2, .int e)] [] h → G 47 [(0, .ref v0), (1, .int v1), (2, .int s)] [] h := by
    intro h v0 v1
    refine pb_wl_ind (I := fun (s : Int32) => G 47 [(0, .ref v0), (1, .int v1), (2, .int s)] [] h) (K := fun (e : Int32) => G 68 [(0, .ref v0), (1, .int v1), (2, .int e)] [] h) (fun s x hf hk => ?_)
    unfold f_282_47s at hf
    refine hG.1 4 47 kb_282_47 _ _ _ rfl ?_
    obtain ⟨hg10, hf⟩ := pb_gd hf
    obtain ⟨q11, eq11, hf⟩ := Option.bind_eq_some_iff.mp hf
    obtain ⟨hg12, hf⟩ := pb_gd hf
    obtain ⟨hg13, hf⟩ := pb_gd hf
    refine And.intro hg10 (Exists.intro q11 (And.intro eq11 (And.intro hg12 (And.intro hg10 (Exists.intro q11 (And.intro eq11 (And.intro hg13 (?_))))))))
    refine And.intro (fun (hc14 : (pb_I h q11 v1.toNatClampNeg) ≤ (pb_I h q11 s.toNatClampNeg)) => ?_) (fun (hc14 : ¬ ((pb_I h q11 v1.toNatClampNeg) ≤ (pb_I h q11 s.toNatClampNeg))) => ?_)
    · rw [if_pos hc14] at hf
      cases hf
      exact hk
    · rw [if_neg hc14] at hf
      cases hf
      exact hk
  have hl_84 : ∀ (v0 : Nat) (n_ : Nat) (s : Int32 × Int32 × pb_HP) (e : pb_HP), pb_wl (f_282_84s N v0) n_ s = some e → G 104 [] [] e → G 84 [(0, .ref v0), (1, .int s.1), (2, .int s.2.1)] [] s.2.2 := by
    intro v0
    refine pb_wl_ind (I := fun (s : Int32 × Int32 × pb_HP) => G 84 [(0, .ref v0), (1, .int s.1), (2, .int s.2.1)] [] s.2.2) (K := fun (e : pb_HP) => G 104 [] [] e) (fun s x hf hk => ?_)
    unfold f_282_84s at hf
    refine hG.1 6 84 kb_282_84 _ _ _ rfl ?_
    refine And.intro (fun (hc22 : s.2.1 ≤ s.1) => ?_) (fun (hc22 : ¬ (s.2.1 ≤ s.1)) => ?_)
    · rw [if_pos hc22] at hf
      cases hf
      exact hG.2 104 _ [] _ _ _ rfl hk
    · rw [if_neg hc22] at hf
      obtain ⟨hg19, hf⟩ := pb_gd hf
      obtain ⟨h21, cr20, hf⟩ := Option.bind_eq_some_iff.mp hf
      refine And.intro hg19 (And.intro (Nat.le_of_ble_eq_true rfl) (And.intro (Nat.le_of_ble_eq_true rfl) (Exists.intro none (Exists.intro _ (And.intro (l_281 cr20) (?_))))))
      cases hf
      exact hk
  have hj_34 : ∀ (h : pb_HP) (v0 : Nat) (v1 : Int32), f_282_34 N h v0 v1 = some ((r, hE)) → G 34 [(0, .ref v0), (1, .int v1)] [] h := by
    intro h v0 v1 hf
    unfold f_282_34 at hf
    refine hG.1 2 34 kb_282_34 _ _ _ rfl ?_
    refine And.intro (fun (hc24 : 0 ≤ v1) => ?_) (fun (hc24 : ¬ (0 ≤ v1)) => ?_)
    · rw [if_pos hc24] at hf
      refine hG.1 3 40 kb_282_40 _ _ _ rfl ?_
      obtain ⟨hg9, hf⟩ := pb_gd hf
      refine And.intro hg9 (?_)
      obtain ⟨e15, he_e15, hf⟩ := Option.bind_eq_some_iff.mp hf
      refine hl_47 _ _ _ _ _ _ he_e15 ?_
      refine hG.1 5 68 kb_282_68 _ _ _ rfl ?_
      obtain ⟨h17, cr16, hf⟩ := Option.bind_eq_some_iff.mp hf
      refine And.intro hg9 (And.intro (Nat.le_of_ble_eq_true rfl) (And.intro (Nat.le_of_ble_eq_true rfl) (Exists.intro none (Exists.intro _ (And.intro (l_281 cr16) (?_))))))
      obtain ⟨hg18, hf⟩ := pb_gd hf
      refine And.intro hg18 (?_)
      obtain ⟨e23, he_e23, hf⟩ := Option.bind_eq_some_iff.mp hf
      refine hl_84 _ _ _ _ he_e23 ?_
      refine hG.1 7 104 kb_282_104 _ _ _ rfl ?_
      cases hf
      exact And.intro (fun _ => Or.inr rfl) (And.intro rfl rfl)
    · rw [if_neg hc24] at hf
      cases hf
      exact And.intro (fun _ => Or.inl rfl) (And.intro rfl rfl)
  unfold f_282 at hf
  refine hG.1 0 0 kb_282_0 _ _ _ rfl ?_
  obtain ⟨hg1, hf⟩ := pb_gd hf
  refine And.intro hg1 (?_)
  obtain ⟨e8, he_e8, hf⟩ := Option.bind_eq_some_iff.mp hf
  refine hl_7 _ _ _ _ _ he_e8 ?_
  exact hj_34 _ _ _ hf
def f_289_40 (N : Nat) (h : pb_HP) (v0 : Nat) (v2 : Int32) (v3 : Int32) (v4 : Int32) (v5 : Int32) (s0 : Int32) (s1 : Int32) (s2 : Nat) : Option ((Int32 × Int32 × pb_HP) ⊕ (pb_HP)) :=
  if pb_ar h s2 12 s1 then ((f_169 v3 v5).bind fun r6 => (if r6 = 0 then (some (.inl ((v4, v5 + (-1), pb_pI h s2 s1.toNatClampNeg s0)))) else (if ¬ v2 = 0 then (some (.inl ((v4 / v2, v5 + (-1), pb_pI h s2 s1.toNatClampNeg s0)))) else none))) else none
def f_289_11s (N : Nat) (v0 : Nat) (v2 : Int32) (v3 : Int32) (s : Int32 × Int32 × pb_HP) : Option ((Int32 × Int32 × pb_HP) ⊕ (pb_HP)) :=
  if s.2.1 < 0 then (some (.inr s.2.2)) else (if pb_is s.2.2 v0 11 then ((pb_R s.2.2 v0 43).bind fun q3 => ((f_169 v3 s.2.1).bind fun r4 => (if r4 = 0 then (f_289_40 N s.2.2 v0 v2 v3 s.1 s.2.1 6 s.2.1 q3) else (if ¬ v2 = 0 then (f_289_40 N s.2.2 v0 v2 v3 s.1 s.2.1 (s.1 - s.1 / v2 * v2) s.2.1 q3) else none)))) else none)
/-- PointedBenchModel.layWings -/
def f_289 (N : Nat) (h : pb_HP) (v0 : Nat) (v1 : Int32) (v2 : Int32) (v3 : Int32) : Option (pb_HP) :=
  if pb_is h v0 11 then ((pb_wl (f_289_11s N v0 v2 v3) N ((v1, (pb_I h v0 25) - 1, h))).bind fun e12 => (some e12)) else none
set_option maxRecDepth 4000 in
theorem l_289 {xs : List Int32} {d : Nat} {N : Nat} {h : pb_HP} {v0 : Nat} {v1 : Int32} {v2 : Int32} {v3 : Int32} {hE : pb_HP} (hf : f_289 N h v0 v1 v2 v3 = some hE) : pb_AR xs (d + 2) 289 h [.ref v0, .int v1, .int v2, .int v3] none hE := by
  intro G hG
  have hc_ : pb_CODE 289 = kc_289 := rfl
  rw [hc_] at hG
  have hj_40 : ∀ (h : pb_HP) (v0 : Nat) (v2 : Int32) (v3 : Int32) (v4 : Int32) (v5 : Int32) (s0 : Int32) (s1 : Int32) (s2 : Nat) x, f_289_40 N h v0 v2 v3 v4 v5 s0 s1 s2 = some x → pb_kk (fun (s_ : Int32 × Int32 × pb_HP) => G 11 [(0, .ref v0), (2, .int v2), (3, .int v3), (4, .int s_.1), (5, .int s_.2.1)] [] s_.2.2) (fun (e_ : pb_HP) => G 67 [] [] e_) x → G 40 [(0, .ref v0), (2, .int v2), (3, .int v3), (4, .int v4), (5, .int v5)] [.int s0, .int s1, .ref s2] h := by
    intro h v0 v2 v3 v4 v5 s0 s1 s2 x hf hk
    unfold f_289_40 at hf
    refine hG.1 3 40 kb_289_40 _ _ _ rfl ?_
    obtain ⟨hg5, hf⟩ := pb_gd hf
    refine And.intro hg5 (?_)
    obtain ⟨r6, cr6, hf⟩ := Option.bind_eq_some_iff.mp hf
    refine And.intro (Nat.le_of_ble_eq_true rfl) (And.intro (Nat.le_of_ble_eq_true rfl) (And.intro (Nat.le_of_ble_eq_true rfl) (Exists.intro (some (.int r6)) (Exists.intro _ (And.intro (l_169 cr6) (?_))))))
    refine And.intro (fun (hc8 : r6 = 0) => ?_) (fun (hc8 : ¬ (r6 = 0)) => ?_)
    · rw [if_pos hc8] at hf
      refine hG.1 4 57 kb_289_57 _ _ _ rfl ?_
      refine hG.1 5 59 kb_289_59 _ _ _ rfl ?_
      cases hf
      exact hk
    · rw [if_neg hc8] at hf
      obtain ⟨hg7, hf⟩ := pb_gd hf
      refine And.intro hg7 (?_)
      refine hG.1 5 59 kb_289_59 _ _ _ rfl ?_
      cases hf
      exact hk
  have hl_11 : ∀ (v0 : Nat) (v2 : Int32) (v3 : Int32) (n_ : Nat) (s : Int32 × Int32 × pb_HP) (e : pb_HP), pb_wl (f_289_11s N v0 v2 v3) n_ s = some e → G 67 [] [] e → G 11 [(0, .ref v0), (2, .int v2), (3, .int v3), (4, .int s.1), (5, .int s.2.1)] [] s.2.2 := by
    intro v0 v2 v3
    refine pb_wl_ind (I := fun (s : Int32 × Int32 × pb_HP) => G 11 [(0, .ref v0), (2, .int v2), (3, .int v3), (4, .int s.1), (5, .int s.2.1)] [] s.2.2) (K := fun (e : pb_HP) => G 67 [] [] e) (fun s x hf hk => ?_)
    unfold f_289_11s at hf
    refine hG.1 1 11 kb_289_11 _ _ _ rfl ?_
    refine And.intro (fun (hc11 : s.2.1 < 0) => ?_) (fun (hc11 : ¬ (s.2.1 < 0)) => ?_)
    · rw [if_pos hc11] at hf
      cases hf
      exact hG.2 67 _ [] _ _ _ rfl hk
    · rw [if_neg hc11] at hf
      obtain ⟨hg2, hf⟩ := pb_gd hf
      obtain ⟨q3, eq3, hf⟩ := Option.bind_eq_some_iff.mp hf
      refine And.intro hg2 (Exists.intro q3 (And.intro eq3 (?_)))
      obtain ⟨r4, cr4, hf⟩ := Option.bind_eq_some_iff.mp hf
      refine And.intro (Nat.le_of_ble_eq_true rfl) (And.intro (Nat.le_of_ble_eq_true rfl) (And.intro (Nat.le_of_ble_eq_true rfl) (Exists.intro (some (.int r4)) (Exists.intro _ (And.intro (l_169 cr4) (?_))))))
      refine And.intro (fun (hc10 : r4 = 0) => ?_) (fun (hc10 : ¬ (r4 = 0)) => ?_)
      · rw [if_pos hc10] at hf
        refine hG.1 2 38 kb_289_38 _ _ _ rfl ?_
        exact hj_40 _ _ _ _ _ _ _ _ _ _ hf hk
      · rw [if_neg hc10] at hf
        obtain ⟨hg9, hf⟩ := pb_gd hf
        refine And.intro hg9 (?_)
        exact hj_40 _ _ _ _ _ _ _ _ _ _ hf hk
  unfold f_289 at hf
  refine hG.1 0 0 kb_289_0 _ _ _ rfl ?_
  obtain ⟨hg1, hf⟩ := pb_gd hf
  refine And.intro hg1 (?_)
  obtain ⟨e12, he_e12, hf⟩ := Option.bind_eq_some_iff.mp hf
  refine hG.2 11 _ [0, 2, 3, 4, 5] _ _ _ rfl ?_
  refine hl_11 _ _ _ _ _ _ he_e12 ?_
  refine hG.1 6 67 kb_289_67 _ _ _ rfl ?_
  cases hf
  exact And.intro rfl rfl
def f_298_24 (N : Nat) (h : pb_HP) (v0 : Nat) (v2 : Int32) (v3 : Int32) (s0 : Int32) : Option ((Int32 × Int32 × Int32) ⊕ (Int32)) :=
  if pb_ar h v0 12 v3 then ((f_170 v2 (pb_I h v0 v3.toNatClampNeg)).bind fun r3 => (some (.inl ((s0, r3, v3 + 1))))) else none
def f_298_6s (N : Nat) (h : pb_HP) (v0 : Nat) (s : Int32 × Int32 × Int32) : Option ((Int32 × Int32 × Int32) ⊕ (Int32)) :=
  if 6 ≤ s.2.2 then (some (.inr s.1)) else (if pb_ar h v0 12 s.2.2 then (if (pb_I h v0 s.2.2.toNatClampNeg) ≤ s.2.1 then (f_298_24 N h v0 s.2.1 s.2.2 s.1) else (f_298_24 N h v0 s.2.1 s.2.2 s.2.2)) else none)
/-- PointedBenchModel.mostOf -/
def f_298 (N : Nat) (h : pb_HP) (v0 : Nat) : Option (Int32) :=
  (pb_wl (f_298_6s N h v0) N (((-1), 0, 0))).bind fun e6 => (some e6)
set_option maxRecDepth 4000 in
theorem l_298 {xs : List Int32} {d : Nat} {N : Nat} {h : pb_HP} {v0 : Nat} {r : Int32} (hf : f_298 N h v0 = some r) : pb_AR xs (d + 2) 298 h [.ref v0] (some (.int r)) h := by
  intro G hG
  have hc_ : pb_CODE 298 = kc_298 := rfl
  rw [hc_] at hG
  have hj_24 : ∀ (v0 : Nat) (v2 : Int32) (v3 : Int32) (s0 : Int32) x, f_298_24 N h v0 v2 v3 s0 = some x → pb_kk (fun (s_ : Int32 × Int32 × Int32) => G 6 [(0, .ref v0), (1, .int s_.1), (2, .int s_.2.1), (3, .int s_.2.2)] [] h) (fun (e_ : Int32) => G 39 [(1, .int e_)] [] h) x → G 24 [(0, .ref v0), (2, .int v2), (3, .int v3)] [.int s0] h := by
    intro v0 v2 v3 s0 x hf hk
    unfold f_298_24 at hf
    refine hG.1 3 24 kb_298_24 _ _ _ rfl ?_
    obtain ⟨hg2, hf⟩ := pb_gd hf
    refine And.intro hg2 (?_)
    obtain ⟨r3, cr3, hf⟩ := Option.bind_eq_some_iff.mp hf
    refine And.intro (Nat.le_of_ble_eq_true rfl) (And.intro (Nat.le_of_ble_eq_true rfl) (And.intro (Nat.le_of_ble_eq_true rfl) (Exists.intro (some (.int r3)) (Exists.intro _ (And.intro (l_170 cr3) (?_))))))
    cases hf
    exact hG.2 6 _ [0, 3, 1, 2] _ _ _ rfl hk
  have hl_6 : ∀ (v0 : Nat) (n_ : Nat) (s : Int32 × Int32 × Int32) (e : Int32), pb_wl (f_298_6s N h v0) n_ s = some e → G 39 [(1, .int e)] [] h → G 6 [(0, .ref v0), (1, .int s.1), (2, .int s.2.1), (3, .int s.2.2)] [] h := by
    intro v0
    refine pb_wl_ind (I := fun (s : Int32 × Int32 × Int32) => G 6 [(0, .ref v0), (1, .int s.1), (2, .int s.2.1), (3, .int s.2.2)] [] h) (K := fun (e : Int32) => G 39 [(1, .int e)] [] h) (fun s x hf hk => ?_)
    unfold f_298_6s at hf
    refine hG.1 1 6 kb_298_6 _ _ _ rfl ?_
    refine And.intro (fun (hc5 : 6 ≤ s.2.2) => ?_) (fun (hc5 : ¬ (6 ≤ s.2.2)) => ?_)
    · rw [if_pos hc5] at hf
      cases hf
      exact hG.2 39 _ [1] _ _ _ rfl hk
    · rw [if_neg hc5] at hf
      obtain ⟨hg1, hf⟩ := pb_gd hf
      refine And.intro hg1 (?_)
      refine And.intro (fun (hc4 : (pb_I h v0 s.2.2.toNatClampNeg) ≤ s.2.1) => ?_) (fun (hc4 : ¬ ((pb_I h v0 s.2.2.toNatClampNeg) ≤ s.2.1)) => ?_)
      · rw [if_pos hc4] at hf
        refine hG.1 2 23 kb_298_23 _ _ _ rfl ?_
        refine hG.2 24 _ [0, 2, 3] _ _ _ rfl ?_
        exact hj_24 _ _ _ _ _ hf hk
      · rw [if_neg hc4] at hf
        refine hG.2 24 _ [0, 2, 3] _ _ _ rfl ?_
        exact hj_24 _ _ _ _ _ hf hk
  unfold f_298 at hf
  refine hG.1 0 0 kb_298_0 _ _ _ rfl ?_
  obtain ⟨e6, he_e6, hf⟩ := Option.bind_eq_some_iff.mp hf
  refine hl_6 _ _ _ _ he_e6 ?_
  refine hG.1 4 39 kb_298_39 _ _ _ rfl ?_
  cases hf
  exact And.intro (fun z_ => absurd z_ (by decide)) (And.intro rfl rfl)
/-- PointedBenchModel.count -/
def f_302 (h : pb_HP) (v0 : Nat) (v1 : Int32) : Option (Int32 × pb_HP) :=
  if pb_is h v0 11 then ((f_168 v1 0 2).bind fun r2 => (if r2 = 0 then (some (((-2), pb_pI h v0 0 0))) else ((pb_R h v0 5).bind fun q3 => (if pb_ar h q3 12 v1 then (some ((pb_I (pb_pI h v0 0 0) q3 v1.toNatClampNeg, pb_pI h v0 0 0))) else none)))) else none
set_option maxRecDepth 4000 in
theorem l_302 {xs : List Int32} {d : Nat} {h : pb_HP} {v0 : Nat} {v1 : Int32} {r : Int32} {hE : pb_HP} (hf : f_302 h v0 v1 = some ((r, hE))) : pb_AR xs (d + 2) 302 h [.ref v0, .int v1] (some (.int r)) hE := by
  intro G hG
  have hc_ : pb_CODE 302 = kc_302 := rfl
  rw [hc_] at hG
  unfold f_302 at hf
  refine hG.1 0 0 kb_302_0 _ _ _ rfl ?_
  obtain ⟨hg1, hf⟩ := pb_gd hf
  refine And.intro hg1 (?_)
  obtain ⟨r2, cr2, hf⟩ := Option.bind_eq_some_iff.mp hf
  refine And.intro (Nat.le_of_ble_eq_true rfl) (And.intro (Nat.le_of_ble_eq_true rfl) (And.intro (Nat.le_of_ble_eq_true rfl) (Exists.intro (some (.int r2)) (Exists.intro _ (And.intro (l_168 cr2) (?_))))))
  refine And.intro (fun (hc5 : r2 = 0) => ?_) (fun (hc5 : ¬ (r2 = 0)) => ?_)
  · rw [if_pos hc5] at hf
    refine hG.1 1 23 kb_302_23 _ _ _ rfl ?_
    refine hG.1 2 25 kb_302_25 _ _ _ rfl ?_
    cases hf
    exact And.intro (fun z_ => absurd z_ (by decide)) (And.intro rfl rfl)
  · rw [if_neg hc5] at hf
    obtain ⟨q3, eq3, hf⟩ := Option.bind_eq_some_iff.mp hf
    obtain ⟨hg4, hf⟩ := pb_gd hf
    refine And.intro hg1 (Exists.intro q3 (And.intro eq3 (And.intro hg4 (?_))))
    refine hG.1 2 25 kb_302_25 _ _ _ rfl ?_
    cases hf
    exact And.intro (fun z_ => absurd z_ (by decide)) (And.intro rfl rfl)
