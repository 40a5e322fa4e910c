def f_23_24s (N : Nat) (h : pb_HP) (v0 : Nat) (v1 : Int32) (s : Int32 × Int32 × Int32) : Option ((Int32 × Int32 × Int32) ⊕ (Int32)) :=
  if v1 < s.2.2 then (some (.inr s.2.1)) else (if pb_is h v0 0 then ((f_24 N h v0 s.1).bind fun r4 => (some (.inl ((s.1 &&& (((1 : Int32) <<< (r4 &&& 31)) ^^^ ((-1))), r4, s.2.2 + 1))))) else none)
/-- County.goingAt -/
def f_23 (N : Nat) (h : pb_HP) (v0 : Nat) (v1 : Int32) : Option (Int32) :=
  if pb_is h v0 0 then ((f_3 h v0 v1).bind fun r2 => (if ¬ r2 = 0 then ((pb_wl (f_23_24s N h v0 v1) N ((((1 : Int32) <<< ((pb_I h v0 0) &&& 31)) - 1, (-1), 0))).bind fun e6 => (some e6)) else (some ((-1))))) else none
set_option maxRecDepth 4000 in
theorem l_23 {xs : List Int32} {d : Nat} {N : Nat} {h : pb_HP} {v0 : Nat} {v1 : Int32} {r : Int32} (hf : f_23 N h v0 v1 = some r) : pb_AR xs (d + 4) 23 h [.ref v0, .int v1] (some (.int r)) h := by
  intro G hG
  have hc_ : pb_CODE 23 = kc_23 := rfl
  rw [hc_] at hG
  have hl_24 : ∀ (v0 : Nat) (v1 : Int32) (n_ : Nat) (s : Int32 × Int32 × Int32) (e : Int32), pb_wl (f_23_24s N h v0 v1) n_ s = some e → G 50 [(3, .int e)] [] h → G 24 [(0, .ref v0), (1, .int v1), (2, .int s.1), (3, .int s.2.1), (4, .int s.2.2)] [] h := by
    intro v0 v1
    refine pb_wl_ind (I := fun (s : Int32 × Int32 × Int32) => G 24 [(0, .ref v0), (1, .int v1), (2, .int s.1), (3, .int s.2.1), (4, .int s.2.2)] [] h) (K := fun (e : Int32) => G 50 [(3, .int e)] [] h) (fun s x hf hk => ?_)
    unfold f_23_24s at hf
    refine hG.1 2 24 kb_23_24 _ _ _ rfl ?_
    refine And.intro (fun (hc5 : v1 < s.2.2) => ?_) (fun (hc5 : ¬ (v1 < s.2.2)) => ?_)
    · rw [if_pos hc5] at hf
      cases hf
      exact hG.2 50 _ [3] _ _ _ rfl hk
    · rw [if_neg hc5] at hf
      obtain ⟨hg3, hf⟩ := pb_gd hf
      obtain ⟨r4, cr4, hf⟩ := Option.bind_eq_some_iff.mp hf
      refine And.intro hg3 (And.intro (Nat.le_of_ble_eq_true rfl) (And.intro (Nat.le_of_ble_eq_true rfl) (Exists.intro (some (.int r4)) (Exists.intro _ (And.intro (l_24 cr4) (?_))))))
      cases hf
      exact hk
  unfold f_23 at hf
  refine hG.1 0 0 kb_23_0 _ _ _ rfl ?_
  obtain ⟨hg1, hf⟩ := pb_gd hf
  obtain ⟨r2, cr2, hf⟩ := Option.bind_eq_some_iff.mp hf
  refine And.intro hg1 (And.intro (Nat.le_of_ble_eq_true rfl) (And.intro (Nat.le_of_ble_eq_true rfl) (Exists.intro (some (.int r2)) (Exists.intro _ (And.intro (l_3 cr2) (?_))))))
  refine And.intro (fun (hc7 : ¬ r2 = 0) => ?_) (fun (hc7 : ¬ (¬ r2 = 0)) => ?_)
  · rw [if_pos hc7] at hf
    refine hG.1 1 10 kb_23_10 _ _ _ rfl ?_
    refine And.intro hg1 (?_)
    obtain ⟨e6, he_e6, hf⟩ := Option.bind_eq_some_iff.mp hf
    refine hl_24 _ _ _ _ _ he_e6 ?_
    refine hG.1 3 50 kb_23_50 _ _ _ rfl ?_
    cases hf
    exact And.intro (fun z_ => absurd z_ (by decide)) (And.intro rfl rfl)
  · rw [if_neg hc7] at hf
    cases hf
    exact And.intro (fun z_ => absurd z_ (by decide)) (And.intro rfl rfl)
def f_31_52 (N : Nat) (h : pb_HP) (s0 : Int32) (s1 : Int32) (s2 : Int32) (s3 : Nat) : Option (Int32 × pb_HP) :=
  if pb_is h s3 1 then ((f_32 h s3 s2 s1 s0).bind fun (r3, h4) => (if r3 = 0 ∨ r3 = 1 then (some ((r3, h4))) else none)) else none
def f_31_40 (N : Nat) (h : pb_HP) (v0 : Nat) (v1 : Int32) (v2 : Int32) (v3 : Int32) : Option (Int32 × pb_HP) :=
  if ¬ v1 = 0 then (f_31_52 N h 0 v3 v2 v0) else (f_31_52 N h 1 v3 v2 v0)
/-- Course.act -/
def f_31 (N : Nat) (h : pb_HP) (v0 : Nat) (v1 : Int32) (v2 : Int32) (v3 : Int32) (v4 : Int32) : Option (Int32 × pb_HP) :=
  if v1 = 0 then (f_31_40 N h v0 v1 v2 v3) else if v1 = 1 then (f_31_40 N h v0 v1 v2 v3) else if v1 = 2 then (if pb_is h v0 1 then ((f_33 h v0 v2 v3).bind fun (r10, h11) => (if r10 = 0 ∨ r10 = 1 then (some ((r10, h11))) else none)) else none) else if v1 = 3 then (if pb_is h v0 1 then ((f_34 h v0 v2 v3 v4).bind fun (r15, h16) => (if r15 = 0 ∨ r15 = 1 then (some ((r15, h16))) else none)) else none) else if v1 = 4 then (if pb_is h v0 1 then ((f_35 h v0 v2).bind fun (r20, h21) => (if r20 = 0 ∨ r20 = 1 then (some ((r20, h21))) else none)) else none) else if v1 = 5 then (if pb_is h v0 1 then ((pb_R h v0 1).bind fun q25 => ((pb_R h v0 0).bind fun q26 => (if pb_is h q25 5 then ((f_76 N h q25 q26).bind fun h29 => (if pb_is h29 v0 1 then ((pb_R h29 v0 1).bind fun q31 => (if pb_is h29 q31 5 then ((f_77 N h29 q31 63).bind fun r33 => (some ((1, pb_pI (pb_pI h29 v0 5 r33) v0 6 ((pb_I (pb_pI h29 v0 5 r33) v0 6) + 1))))) else none)) else none)) else none))) else none) else (if pb_is h v0 1 then ((f_36 N h v0).bind fun (r35, h36) => (if r35 = 0 ∨ r35 = 1 then (some ((r35, h36))) else none)) else none)
set_option maxRecDepth 4000 in
theorem l_31 {xs : List Int32} {d : Nat} {N : Nat} {h : pb_HP} {v0 : Nat} {v1 : Int32} {v2 : Int32} {v3 : Int32} {v4 : Int32} {r : Int32} {hE : pb_HP} (hf : f_31 N h v0 v1 v2 v3 v4 = some ((r, hE))) : pb_AR xs (d + 4) 31 h [.ref v0, .int v1, .int v2, .int v3, .int v4] (some (.int r)) hE := by
  intro G hG
  have hc_ : pb_CODE 31 = kc_31 := rfl
  rw [hc_] at hG
  have hj_52 : ∀ (h : pb_HP) (s0 : Int32) (s1 : Int32) (s2 : Int32) (s3 : Nat), f_31_52 N h s0 s1 s2 s3 = some ((r, hE)) → G 52 [] [.int s0, .int s1, .int s2, .ref s3] h := by
    intro h s0 s1 s2 s3 hf
    unfold f_31_52 at hf
    refine hG.1 3 52 kb_31_52 _ _ _ rfl ?_
    obtain ⟨hg2, hf⟩ := pb_gd hf
    obtain ⟨⟨r3, h4⟩, cr3, hf⟩ := Option.bind_eq_some_iff.mp hf
    try dsimp only at hf
    refine And.intro hg2 (And.intro (Nat.le_of_ble_eq_true rfl) (And.intro (Nat.le_of_ble_eq_true rfl) (Exists.intro (some (.int r3)) (Exists.intro _ (And.intro (l_32 cr3) (?_))))))
    obtain ⟨hg5, hf⟩ := pb_gd hf
    cases hf
    exact And.intro (fun _ => hg5) (And.intro rfl rfl)
  have hj_40 : ∀ (h : pb_HP) (v0 : Nat) (v1 : Int32) (v2 : Int32) (v3 : Int32), f_31_40 N h v0 v1 v2 v3 = some ((r, hE)) → G 40 [(0, .ref v0), (1, .int v1), (2, .int v2), (3, .int v3)] [] h := by
    intro h v0 v1 v2 v3 hf
    unfold f_31_40 at hf
    refine hG.1 1 40 kb_31_40 _ _ _ rfl ?_
    refine And.intro (fun (hc6 : ¬ v1 = 0) => ?_) (fun (hc6 : ¬ (¬ v1 = 0)) => ?_)
    · rw [if_pos hc6] at hf
      refine hG.1 2 51 kb_31_51 _ _ _ rfl ?_
      refine hG.2 52 _ [] _ _ _ rfl ?_
      exact hj_52 _ _ _ _ _ hf
    · rw [if_neg hc6] at hf
      refine hG.2 52 _ [] _ _ _ rfl ?_
      exact hj_52 _ _ _ _ _ hf
  unfold f_31 at hf
  refine hG.1 0 0 kb_31_0 _ _ _ rfl ?_
  by_cases hc1 : v1 = 0
  · rw [if_pos hc1] at hf
    refine pb_gs (G := G) (tgt := 40) (show pb_swt 1 113 0 5 #[39, 39, 55, 62, 71, 77] v1 = 40 by rw [hc1]; decide) ?_
    refine hG.2 40 _ [0, 1, 2, 3] _ _ _ rfl ?_
    exact hj_40 _ _ _ _ _ hf
  rw [if_neg hc1] at hf
  by_cases hc7 : v1 = 1
  · rw [if_pos hc7] at hf
    refine pb_gs (G := G) (tgt := 40) (show pb_swt 1 113 0 5 #[39, 39, 55, 62, 71, 77] v1 = 40 by rw [hc7]; decide) ?_
    refine hG.2 40 _ [0, 1, 2, 3] _ _ _ rfl ?_
    exact hj_40 _ _ _ _ _ hf
  rw [if_neg hc7] at hf
  by_cases hc8 : v1 = 2
  · rw [if_pos hc8] at hf
    refine pb_gs (G := G) (tgt := 56) (show pb_swt 1 113 0 5 #[39, 39, 55, 62, 71, 77] v1 = 56 by rw [hc8]; decide) ?_
    refine hG.1 4 56 kb_31_56 _ _ _ rfl ?_
    obtain ⟨hg9, hf⟩ := pb_gd hf
    obtain ⟨⟨r10, h11⟩, cr10, hf⟩ := Option.bind_eq_some_iff.mp hf
    try dsimp only at hf
    refine And.intro hg9 (And.intro (Nat.le_of_ble_eq_true rfl) (And.intro (Nat.le_of_ble_eq_true rfl) (Exists.intro (some (.int r10)) (Exists.intro _ (And.intro (l_33 cr10) (?_))))))
    obtain ⟨hg12, hf⟩ := pb_gd hf
    cases hf
    exact And.intro (fun _ => hg12) (And.intro rfl rfl)
  rw [if_neg hc8] at hf
  by_cases hc13 : v1 = 3
  · rw [if_pos hc13] at hf
    refine pb_gs (G := G) (tgt := 63) (show pb_swt 1 113 0 5 #[39, 39, 55, 62, 71, 77] v1 = 63 by rw [hc13]; decide) ?_
    refine hG.1 5 63 kb_31_63 _ _ _ rfl ?_
    obtain ⟨hg14, hf⟩ := pb_gd hf
    obtain ⟨⟨r15, h16⟩, cr15, hf⟩ := Option.bind_eq_some_iff.mp hf
    try dsimp only at hf
    refine And.intro hg14 (And.intro (Nat.le_of_ble_eq_true rfl) (And.intro (Nat.le_of_ble_eq_true rfl) (Exists.intro (some (.int r15)) (Exists.intro _ (And.intro (l_34 cr15) (?_))))))
    obtain ⟨hg17, hf⟩ := pb_gd hf
    cases hf
    exact And.intro (fun _ => hg17) (And.intro rfl rfl)
  rw [if_neg hc13] at hf
  by_cases hc18 : v1 = 4
  · rw [if_pos hc18] at hf
    refine pb_gs (G := G) (tgt := 72) (show pb_swt 1 113 0 5 #[39, 39, 55, 62, 71, 77] v1 = 72 by rw [hc18]; decide) ?_
    refine hG.1 6 72 kb_31_72 _ _ _ rfl ?_
    obtain ⟨hg19, hf⟩ := pb_gd hf
    obtain ⟨⟨r20, h21⟩, cr20, hf⟩ := Option.bind_eq_some_iff.mp hf
    try dsimp only at hf
    refine And.intro hg19 (And.intro (Nat.le_of_ble_eq_true rfl) (And.intro (Nat.le_of_ble_eq_true rfl) (Exists.intro (some (.int r20)) (Exists.intro _ (And.intro (l_35 cr20) (?_))))))
    obtain ⟨hg22, hf⟩ := pb_gd hf
    cases hf
    exact And.intro (fun _ => hg22) (And.intro rfl rfl)
  rw [if_neg hc18] at hf
  by_cases hc23 : v1 = 5
  · rw [if_pos hc23] at hf
    refine pb_gs (G := G) (tgt := 78) (show pb_swt 1 113 0 5 #[39, 39, 55, 62, 71, 77] v1 = 78 by rw [hc23]; decide) ?_
    refine hG.1 7 78 kb_31_78 _ _ _ rfl ?_
    obtain ⟨hg24, hf⟩ := pb_gd hf
    obtain ⟨q25, eq25, hf⟩ := Option.bind_eq_some_iff.mp hf
    obtain ⟨q26, eq26, hf⟩ := Option.bind_eq_some_iff.mp hf
    obtain ⟨hg27, hf⟩ := pb_gd hf
    refine And.intro hg24 (Exists.intro q25 (And.intro eq25 (And.intro hg24 (Exists.intro q26 (And.intro eq26 (?_))))))
    obtain ⟨h29, cr28, hf⟩ := Option.bind_eq_some_iff.mp hf
    refine And.intro hg27 (And.intro (Nat.le_of_ble_eq_true rfl) (And.intro (Nat.le_of_ble_eq_true rfl) (Exists.intro none (Exists.intro _ (And.intro (l_76 cr28) (?_))))))
    obtain ⟨hg30, hf⟩ := pb_gd hf
    obtain ⟨q31, eq31, hf⟩ := Option.bind_eq_some_iff.mp hf
    obtain ⟨hg32, hf⟩ := pb_gd hf
    refine And.intro hg30 (Exists.intro q31 (And.intro eq31 (?_)))
    obtain ⟨r33, cr33, hf⟩ := Option.bind_eq_some_iff.mp hf
    refine And.intro hg32 (And.intro (Nat.le_of_ble_eq_true rfl) (And.intro (Nat.le_of_ble_eq_true rfl) (Exists.intro (some (.int r33)) (Exists.intro _ (And.intro (l_77 cr33) (?_))))))
    refine And.intro hg30 (And.intro hg30 (And.intro hg30 (?_)))
    cases hf
    exact And.intro (fun _ => Or.inr rfl) (And.intro rfl rfl)
  rw [if_neg hc23] at hf
  refine pb_gs (G := G) (tgt := 114) (show pb_swt 1 113 0 5 #[39, 39, 55, 62, 71, 77] v1 = 114 from pb_swd (by decide) (by decide) (fun k_ hk_ => by
    have hk_ : k_ < 6 := hk_
    match k_, hk_ with
    | 0, _ => exact hc1
    | 1, _ => exact hc7
    | 2, _ => exact hc8
    | 3, _ => exact hc13
    | 4, _ => exact hc18
    | 5, _ => exact hc23
    | k_ + 6, hk_ => omega)) ?_
  refine hG.1 8 114 kb_31_114 _ _ _ rfl ?_
  obtain ⟨hg34, hf⟩ := pb_gd hf
  obtain ⟨⟨r35, h36⟩, cr35, hf⟩ := Option.bind_eq_some_iff.mp hf
  try dsimp only at hf
  refine And.intro hg34 (And.intro (Nat.le_of_ble_eq_true rfl) (And.intro (Nat.le_of_ble_eq_true rfl) (Exists.intro (some (.int r35)) (Exists.intro _ (And.intro (l_36 cr35) (?_))))))
  obtain ⟨hg37, hf⟩ := pb_gd hf
  cases hf
  exact And.intro (fun _ => hg37) (And.intro rfl rfl)
/-- Course.toldOfAll -/
def f_38 (N : Nat) (h : pb_HP) (v0 : Nat) (v1 : Int32) : Option (Int32 × pb_HP) :=
  if v1 = 0 then (if pb_is h v0 1 then (some ((pb_I h v0 4, h))) else none) else if v1 = 1 then (if pb_is h v0 1 then (some ((pb_I h v0 5, h))) else none) else if v1 = 2 then (if pb_is h v0 1 then (some ((pb_I h v0 6, h))) else none) else if v1 = 3 then (if pb_is h v0 1 then ((pb_R h v0 1).bind fun q9 => ((pb_R h v0 0).bind fun q10 => (if pb_is h q9 5 then ((f_76 N h q9 q10).bind fun h13 => (if pb_is h13 v0 1 then ((pb_R h13 v0 1).bind fun q15 => (if pb_is h13 q15 5 then (some ((pb_I h13 q15 0, h13))) else none)) else none)) else none))) else none) else if v1 = 4 then (if pb_is h v0 1 then ((pb_R h v0 1).bind fun q19 => ((pb_R h v0 0).bind fun q20 => (if pb_is h q19 5 then ((f_76 N h q19 q20).bind fun h23 => (if pb_is h23 v0 1 then ((pb_R h23 v0 1).bind fun q25 => (if pb_is h23 q25 5 then ((f_77 N h23 q25 63).bind fun r27 => (some ((r27, h23)))) else none)) else none)) else none))) else none) else if v1 = 5 then (if pb_is h v0 1 then (some ((pb_I h v0 7, h))) else none) else (some (((-1), h)))
set_option maxRecDepth 4000 in
theorem l_38 {xs : List Int32} {d : Nat} {N : Nat} {h : pb_HP} {v0 : Nat} {v1 : Int32} {r : Int32} {hE : pb_HP} (hf : f_38 N h v0 v1 = some ((r, hE))) : pb_AR xs (d + 4) 38 h [.ref v0, .int v1] (some (.int r)) hE := by
  intro G hG
  have hc_ : pb_CODE 38 = kc_38 := rfl
  rw [hc_] at hG
  unfold f_38 at hf
  refine hG.1 0 0 kb_38_0 _ _ _ rfl ?_
  by_cases hc1 : v1 = 0
  · rw [if_pos hc1] at hf
    refine pb_gs (G := G) (tgt := 40) (show pb_swt 1 99 0 5 #[39, 44, 49, 54, 73, 94] v1 = 40 by rw [hc1]; decide) ?_
    refine hG.1 1 40 kb_38_40 _ _ _ rfl ?_
    obtain ⟨hg2, hf⟩ := pb_gd hf
    refine And.intro hg2 (?_)
    cases hf
    exact And.intro (fun z_ => absurd z_ (by decide)) (And.intro rfl rfl)
  rw [if_neg hc1] at hf
  by_cases hc3 : v1 = 1
  · rw [if_pos hc3] at hf
    refine pb_gs (G := G) (tgt := 45) (show pb_swt 1 99 0 5 #[39, 44, 49, 54, 73, 94] v1 = 45 by rw [hc3]; decide) ?_
    refine hG.1 2 45 kb_38_45 _ _ _ rfl ?_
    obtain ⟨hg4, hf⟩ := pb_gd hf
    refine And.intro hg4 (?_)
    cases hf
    exact And.intro (fun z_ => absurd z_ (by decide)) (And.intro rfl rfl)
  rw [if_neg hc3] at hf
  by_cases hc5 : v1 = 2
  · rw [if_pos hc5] at hf
    refine pb_gs (G := G) (tgt := 50) (show pb_swt 1 99 0 5 #[39, 44, 49, 54, 73, 94] v1 = 50 by rw [hc5]; decide) ?_
    refine hG.1 3 50 kb_38_50 _ _ _ rfl ?_
    obtain ⟨hg6, hf⟩ := pb_gd hf
    refine And.intro hg6 (?_)
    cases hf
    exact And.intro (fun z_ => absurd z_ (by decide)) (And.intro rfl rfl)
  rw [if_neg hc5] at hf
  by_cases hc7 : v1 = 3
  · rw [if_pos hc7] at hf
    refine pb_gs (G := G) (tgt := 55) (show pb_swt 1 99 0 5 #[39, 44, 49, 54, 73, 94] v1 = 55 by rw [hc7]; decide) ?_
    refine hG.1 4 55 kb_38_55 _ _ _ rfl ?_
    obtain ⟨hg8, hf⟩ := pb_gd hf
    obtain ⟨q9, eq9, hf⟩ := Option.bind_eq_some_iff.mp hf
    obtain ⟨q10, eq10, hf⟩ := Option.bind_eq_some_iff.mp hf
    obtain ⟨hg11, hf⟩ := pb_gd hf
    refine And.intro hg8 (Exists.intro q9 (And.intro eq9 (And.intro hg8 (Exists.intro q10 (And.intro eq10 (?_))))))
    obtain ⟨h13, cr12, hf⟩ := Option.bind_eq_some_iff.mp hf
    refine And.intro hg11 (And.intro (Nat.le_of_ble_eq_true rfl) (And.intro (Nat.le_of_ble_eq_true rfl) (Exists.intro none (Exists.intro _ (And.intro (l_76 cr12) (?_))))))
    obtain ⟨hg14, hf⟩ := pb_gd hf
    obtain ⟨q15, eq15, hf⟩ := Option.bind_eq_some_iff.mp hf
    obtain ⟨hg16, hf⟩ := pb_gd hf
    refine And.intro hg14 (Exists.intro q15 (And.intro eq15 (And.intro hg16 (?_))))
    cases hf
    exact And.intro (fun z_ => absurd z_ (by decide)) (And.intro rfl rfl)
  rw [if_neg hc7] at hf
  by_cases hc17 : v1 = 4
  · rw [if_pos hc17] at hf
    refine pb_gs (G := G) (tgt := 74) (show pb_swt 1 99 0 5 #[39, 44, 49, 54, 73, 94] v1 = 74 by rw [hc17]; decide) ?_
    refine hG.1 5 74 kb_38_74 _ _ _ rfl ?_
    obtain ⟨hg18, hf⟩ := pb_gd hf
    obtain ⟨q19, eq19, hf⟩ := Option.bind_eq_some_iff.mp hf
    obtain ⟨q20, eq20, hf⟩ := Option.bind_eq_some_iff.mp hf
    obtain ⟨hg21, hf⟩ := pb_gd hf
    refine And.intro hg18 (Exists.intro q19 (And.intro eq19 (And.intro hg18 (Exists.intro q20 (And.intro eq20 (?_))))))
    obtain ⟨h23, cr22, hf⟩ := Option.bind_eq_some_iff.mp hf
    refine And.intro hg21 (And.intro (Nat.le_of_ble_eq_true rfl) (And.intro (Nat.le_of_ble_eq_true rfl) (Exists.intro none (Exists.intro _ (And.intro (l_76 cr22) (?_))))))
    obtain ⟨hg24, hf⟩ := pb_gd hf
    obtain ⟨q25, eq25, hf⟩ := Option.bind_eq_some_iff.mp hf
    obtain ⟨hg26, hf⟩ := pb_gd hf
    refine And.intro hg24 (Exists.intro q25 (And.intro eq25 (?_)))
    obtain ⟨r27, cr27, hf⟩ := Option.bind_eq_some_iff.mp hf
    refine And.intro hg26 (And.intro (Nat.le_of_ble_eq_true rfl) (And.intro (Nat.le_of_ble_eq_true rfl) (Exists.intro (some (.int r27)) (Exists.intro _ (And.intro (l_77 cr27) (?_))))))
    cases hf
    exact And.intro (fun z_ => absurd z_ (by decide)) (And.intro rfl rfl)
  rw [if_neg hc17] at hf
  by_cases hc28 : v1 = 5
  · rw [if_pos hc28] at hf
    refine pb_gs (G := G) (tgt := 95) (show pb_swt 1 99 0 5 #[39, 44, 49, 54, 73, 94] v1 = 95 by rw [hc28]; decide) ?_
    refine hG.1 6 95 kb_38_95 _ _ _ rfl ?_
    obtain ⟨hg29, hf⟩ := pb_gd hf
    refine And.intro hg29 (?_)
    cases hf
    exact And.intro (fun z_ => absurd z_ (by decide)) (And.intro rfl rfl)
  rw [if_neg hc28] at hf
  refine pb_gs (G := G) (tgt := 100) (show pb_swt 1 99 0 5 #[39, 44, 49, 54, 73, 94] v1 = 100 from pb_swd (by decide) (by decide) (fun k_ hk_ => by
    have hk_ : k_ < 6 := hk_
    match k_, hk_ with
    | 0, _ => exact hc1
    | 1, _ => exact hc3
    | 2, _ => exact hc5
    | 3, _ => exact hc7
    | 4, _ => exact hc17
    | 5, _ => exact hc28
    | k_ + 6, hk_ => omega)) ?_
  refine hG.1 7 100 kb_38_100 _ _ _ rfl ?_
  cases hf
  exact And.intro (fun z_ => absurd z_ (by decide)) (And.intro rfl rfl)
def f_60_7s (N : Nat) (v0 : Nat) (v1 : Nat) (s : Int32 × pb_HP) : Option ((Int32 × pb_HP) ⊕ (pb_HP)) :=
  if 729 ≤ s.1 then (some (.inr s.2)) else (if pb_is s.2 v0 3 then ((f_61 N s.2 v0 v1 s.1).bind fun r3 => (if r3 = 0 then (some (.inl ((s.1 + 1, s.2)))) else ((pb_R s.2 v0 1).bind fun q4 => (if pb_ar s.2 q4 12 (pb_I s.2 v0 0) then (some (.inl ((s.1 + 1, pb_pI (pb_pI s.2 q4 (pb_I s.2 v0 0).toNatClampNeg s.1) v0 0 ((pb_I (pb_pI s.2 q4 (pb_I s.2 v0 0).toNatClampNeg s.1) v0 0) + 1))))) else none)))) else none)
/-- Likings.gather -/
def f_60 (N : Nat) (h : pb_HP) (v0 : Nat) (v1 : Nat) : Option (pb_HP) :=
  if pb_is h v0 3 then ((pb_wl (f_60_7s N v0 v1) N ((0, pb_pI h v0 0 0))).bind fun e8 => (some e8)) else none
set_option maxRecDepth 4000 in
theorem l_60 {xs : List Int32} {d : Nat} {N : Nat} {h : pb_HP} {v0 : Nat} {v1 : Nat} {hE : pb_HP} (hf : f_60 N h v0 v1 = some hE) : pb_AR xs (d + 4) 60 h [.ref v0, .ref v1] none hE := by
  intro G hG
  have hc_ : pb_CODE 60 = kc_60 := rfl
  rw [hc_] at hG
  have hl_7 : ∀ (v0 : Nat) (v1 : Nat) (n_ : Nat) (s : Int32 × pb_HP) (e : pb_HP), pb_wl (f_60_7s N v0 v1) n_ s = some e → G 49 [] [] e → G 7 [(0, .ref v0), (1, .ref v1), (2, .int s.1)] [] s.2 := by
    intro v0 v1
    refine pb_wl_ind (I := fun (s : Int32 × pb_HP) => G 7 [(0, .ref v0), (1, .ref v1), (2, .int s.1)] [] s.2) (K := fun (e : pb_HP) => G 49 [] [] e) (fun s x hf hk => ?_)
    unfold f_60_7s at hf
    refine hG.1 1 7 kb_60_7 _ _ _ rfl ?_
    refine And.intro (fun (hc7 : 729 ≤ s.1) => ?_) (fun (hc7 : ¬ (729 ≤ s.1)) => ?_)
    · rw [if_pos hc7] at hf
      cases hf
      exact hG.2 49 _ [] _ _ _ rfl hk
    · rw [if_neg hc7] at hf
      obtain ⟨hg2, hf⟩ := pb_gd hf
      obtain ⟨r3, cr3, hf⟩ := Option.bind_eq_some_iff.mp hf
      refine And.intro hg2 (And.intro (Nat.le_of_ble_eq_true rfl) (And.intro (Nat.le_of_ble_eq_true rfl) (Exists.intro (some (.int r3)) (Exists.intro _ (And.intro (l_61 cr3) (?_))))))
      refine And.intro (fun (hc6 : r3 = 0) => ?_) (fun (hc6 : ¬ (r3 = 0)) => ?_)
      · rw [if_pos hc6] at hf
        refine hG.1 2 43 kb_60_43 _ _ _ rfl ?_
        cases hf
        exact hk
      · rw [if_neg hc6] at hf
        obtain ⟨q4, eq4, hf⟩ := Option.bind_eq_some_iff.mp hf
        obtain ⟨hg5, hf⟩ := pb_gd hf
        refine And.intro hg2 (Exists.intro q4 (And.intro eq4 (And.intro hg2 (And.intro hg5 (And.intro hg2 (And.intro hg2 (?_)))))))
        refine hG.1 2 43 kb_60_43 _ _ _ rfl ?_
        cases hf
        exact hk
  unfold f_60 at hf
  refine hG.1 0 0 kb_60_0 _ _ _ rfl ?_
  obtain ⟨hg1, hf⟩ := pb_gd hf
  refine And.intro hg1 (?_)
  obtain ⟨e8, he_e8, hf⟩ := Option.bind_eq_some_iff.mp hf
  refine hl_7 _ _ _ _ _ he_e8 ?_
  refine hG.1 3 49 kb_60_49 _ _ _ rfl ?_
  cases hf
  exact And.intro rfl rfl
def f_65_15s (N : Nat) (h : pb_HP) (v0 : Nat) (s : Int32 × Int32 × Int32) : Option ((Int32 × Int32 × Int32) ⊕ (Int32)) :=
  if 36 ≤ s.2.2 then (some (.inr s.2.1)) else (if pb_is h v0 3 then (if (pb_I h v0 0) ≤ 0 then (some (.inr s.2.1)) else ((pb_R h v0 4).bind fun q6 => (if pb_ar h q6 12 s.2.2 then (if (s.2.2 / 6) = (s.2.2 - s.2.2 / 6 * 6) then (some (.inl ((s.1, s.2.1, s.2.2 + 1)))) else (if s.1 ≤ (if pb_I h q6 s.2.2.toNatClampNeg < (pb_I h v0 0) - (pb_I h q6 s.2.2.toNatClampNeg) then (pb_I h v0 0) - (pb_I h q6 s.2.2.toNatClampNeg) else pb_I h q6 s.2.2.toNatClampNeg) then (some (.inl ((s.1, s.2.1, s.2.2 + 1)))) else (some (.inl ((if pb_I h q6 s.2.2.toNatClampNeg < (pb_I h v0 0) - (pb_I h q6 s.2.2.toNatClampNeg) then (pb_I h v0 0) - (pb_I h q6 s.2.2.toNatClampNeg) else pb_I h q6 s.2.2.toNatClampNeg, (10 * (s.2.2 / 6)) + (s.2.2 - s.2.2 / 6 * 6), s.2.2 + 1)))))) else none))) else none)
/-- Likings.bestQuestion -/
def f_65 (N : Nat) (h : pb_HP) (v0 : Nat) : Option (Int32 × pb_HP) :=
  if pb_is h v0 3 then ((f_66 N h v0).bind fun h3 => (if pb_is h3 v0 3 then ((pb_wl (f_65_15s N h3 v0) N (((pb_I h3 v0 0) + 1, (-1), 0))).bind fun e12 => (some ((e12, h3)))) else none)) else none
set_option maxRecDepth 4000 in
theorem l_65 {xs : List Int32} {d : Nat} {N : Nat} {h : pb_HP} {v0 : Nat} {r : Int32} {hE : pb_HP} (hf : f_65 N h v0 = some ((r, hE))) : pb_AR xs (d + 4) 65 h [.ref v0] (some (.int r)) hE := by
  intro G hG
  have hc_ : pb_CODE 65 = kc_65 := rfl
  rw [hc_] at hG
  have hl_15 : ∀ (h : pb_HP) (v0 : Nat) (n_ : Nat) (s : Int32 × Int32 × Int32) (e : Int32), pb_wl (f_65_15s N h v0) n_ s = some e → G 89 [(2, .int e)] [] h → G 15 [(0, .ref v0), (1, .int s.1), (2, .int s.2.1), (3, .int s.2.2)] [] h := by
    intro h v0
    refine pb_wl_ind (I := fun (s : Int32 × Int32 × Int32) => G 15 [(0, .ref v0), (1, .int s.1), (2, .int s.2.1), (3, .int s.2.2)] [] h) (K := fun (e : Int32) => G 89 [(2, .int e)] [] h) (fun s x hf hk => ?_)
    unfold f_65_15s at hf
    refine hG.1 1 15 kb_65_15 _ _ _ rfl ?_
    refine And.intro (fun (hc11 : 36 ≤ s.2.2) => ?_) (fun (hc11 : ¬ (36 ≤ s.2.2)) => ?_)
    · rw [if_pos hc11] at hf
      cases hf
      exact hG.2 89 _ [2] _ _ _ rfl hk
    · rw [if_neg hc11] at hf
      obtain ⟨hg5, hf⟩ := pb_gd hf
      refine And.intro hg5 (?_)
      refine And.intro (fun (hc10 : (pb_I h v0 0) ≤ 0) => ?_) (fun (hc10 : ¬ ((pb_I h v0 0) ≤ 0)) => ?_)
      · rw [if_pos hc10] at hf
        cases hf
        exact hG.2 89 _ [2] _ _ _ rfl hk
      · rw [if_neg hc10] at hf
        obtain ⟨q6, eq6, hf⟩ := Option.bind_eq_some_iff.mp hf
        obtain ⟨hg7, hf⟩ := pb_gd hf
        refine And.intro hg5 (Exists.intro q6 (And.intro eq6 (And.intro hg7 (And.intro hg5 (And.intro hg5 (Exists.intro q6 (And.intro eq6 (And.intro hg7 (And.intro (Nat.le_of_ble_eq_true rfl) (And.intro (by decide) (And.intro (by decide) (?_))))))))))))
        refine And.intro (fun (hc9 : (s.2.2 / 6) = (s.2.2 - s.2.2 / 6 * 6)) => ?_) (fun (hc9 : ¬ ((s.2.2 / 6) = (s.2.2 - s.2.2 / 6 * 6))) => ?_)
        · rw [if_pos hc9] at hf
          refine hG.1 2 83 kb_65_83 _ _ _ rfl ?_
          cases hf
          exact hG.2 15 _ [0, 1, 2, 3] _ _ _ rfl hk
        · rw [if_neg hc9] at hf
          refine And.intro (fun (hc8 : s.1 ≤ (if pb_I h q6 s.2.2.toNatClampNeg < (pb_I h v0 0) - (pb_I h q6 s.2.2.toNatClampNeg) then (pb_I h v0 0) - (pb_I h q6 s.2.2.toNatClampNeg) else pb_I h q6 s.2.2.toNatClampNeg)) => ?_) (fun (hc8 : ¬ (s.1 ≤ (if pb_I h q6 s.2.2.toNatClampNeg < (pb_I h v0 0) - (pb_I h q6 s.2.2.toNatClampNeg) then (pb_I h v0 0) - (pb_I h q6 s.2.2.toNatClampNeg) else pb_I h q6 s.2.2.toNatClampNeg))) => ?_)
          · rw [if_pos hc8] at hf
            refine hG.1 2 83 kb_65_83 _ _ _ rfl ?_
            cases hf
            exact hG.2 15 _ [0, 1, 2, 3] _ _ _ rfl hk
          · rw [if_neg hc8] at hf
            refine And.intro (by decide) (And.intro (by decide) (?_))
            refine hG.1 2 83 kb_65_83 _ _ _ rfl ?_
            cases hf
            exact hG.2 15 _ [0, 1, 2, 3] _ _ _ rfl hk
  unfold f_65 at hf
  refine hG.1 0 0 kb_65_0 _ _ _ rfl ?_
  obtain ⟨hg1, hf⟩ := pb_gd hf
  obtain ⟨h3, cr2, hf⟩ := Option.bind_eq_some_iff.mp hf
  refine And.intro hg1 (And.intro (Nat.le_of_ble_eq_true rfl) (And.intro (Nat.le_of_ble_eq_true rfl) (Exists.intro none (Exists.intro _ (And.intro (l_66 cr2) (?_))))))
  obtain ⟨hg4, hf⟩ := pb_gd hf
  refine And.intro hg4 (?_)
  obtain ⟨e12, he_e12, hf⟩ := Option.bind_eq_some_iff.mp hf
  refine hl_15 _ _ _ _ _ he_e12 ?_
  refine hG.1 3 89 kb_65_89 _ _ _ rfl ?_
  cases hf
  exact And.intro (fun z_ => absurd z_ (by decide)) (And.intro rfl rfl)
def f_91_40s (N : Nat) (v0 : Nat) (v2 : Int32) (s : Int32 × pb_HP) : Option ((Int32 × pb_HP) ⊕ ((Int32 × pb_HP) ⊕ (pb_HP))) :=
  if 3 ≤ s.1 then (some (.inr (.inr s.2))) else (if pb_in ((v2 * 3) + s.1) pb_S3.length then (if (pb_S3.getD ((v2 * 3) + s.1).toNatClampNeg 0) = ((-1)) then (some (.inr (.inr s.2))) else (if pb_is s.2 v0 6 then ((f_88 N s.2 v0).bind fun h11 => (if pb_is h11 v0 6 then (if (pb_I h11 v0 7) = 2 then ((pb_R h11 v0 12).bind fun q13 => ((f_95 N h11 v0).bind fun r14 => (if pb_ar h11 q13 12 s.1 then ((f_96 (pb_pI h11 q13 s.1.toNatClampNeg r14) v0 v2 s.1).bind fun r16 => (if ¬ r16 = 0 then (some (.inl ((s.1 + 1, pb_pI h11 q13 s.1.toNatClampNeg r14)))) else ((f_87 (pb_pI h11 q13 s.1.toNatClampNeg r14) v0 2 (pb_I (pb_pI h11 q13 s.1.toNatClampNeg r14) v0 8)).bind fun h18 => (some (.inl ((s.1 + 1, h18))))))) else none))) else (some (.inr (.inl ((0, h11)))))) else none)) else none)) else none)
def f_91_106 (N : Nat) (h : pb_HP) (v0 : Nat) (v2 : Int32) : Option (Int32 × pb_HP) :=
  if pb_is h v0 6 then ((f_88 N h v0).bind fun h28 => (if pb_is h28 v0 6 then (if (pb_I h28 v0 7) = 3 then (if ¬ (pb_I h28 v0 3) = 0 then (some ((1, h28))) else ((f_97 h28 v0 v2).bind fun h31 => (some ((1, h31))))) else (some ((0, h28)))) else none)) else none
def f_91_30 (N : Nat) (h : pb_HP) (v0 : Nat) (v2 : Int32) : Option (Int32 × pb_HP) :=
  if pb_is h v0 6 then ((pb_R h v0 12).bind fun q5 => ((f_306 N h q5 ((-1))).bind fun h7 => ((pb_wl (f_91_40s N v0 v2) N ((0, h7))).bind fun e23 => (match e23 with | .inl q25 => some q25 | .inr x24 => f_91_106 N x24 v0 v2)))) else none
/-- Reader.readLine -/
def f_91 (N : Nat) (h : pb_HP) (v0 : Nat) (v1 : Int32) : Option (Int32 × pb_HP) :=
  if pb_is h v0 6 then ((f_92 N h v0 v1).bind fun r2 => (if ¬ r2 = ((-1)) then ((f_94 h v0 r2).bind fun r3 => (if r3 = 0 then (f_91_30 N h v0 r2) else ((f_87 h v0 3 (pb_I h v0 8)).bind fun h35 => (f_91_30 N h35 v0 r2)))) else (some ((0, h))))) else none
set_option maxRecDepth 4000 in
theorem l_91 {xs : List Int32} {d : Nat} {N : Nat} {h : pb_HP} {v0 : Nat} {v1 : Int32} {r : Int32} {hE : pb_HP} (hf : f_91 N h v0 v1 = some ((r, hE))) : pb_AR xs (d + 4) 91 h [.ref v0, .int v1] (some (.int r)) hE := by
  intro G hG
  have hc_ : pb_CODE 91 = kc_91 := rfl
  rw [hc_] at hG
  have hl_40 : ∀ (v0 : Nat) (v2 : Int32) (n_ : Nat) (s : Int32 × pb_HP) (e : (Int32 × pb_HP) ⊕ (pb_HP)), pb_wl (f_91_40s N v0 v2) n_ s = some e → pb_kk (fun (q_ : Int32 × pb_HP) => q_ = (r, hE)) (fun (x_ : pb_HP) => G 106 [(0, .ref v0), (2, .int v2)] [] x_) e → G 40 [(0, .ref v0), (2, .int v2), (3, .int s.1)] [] s.2 := by
    intro v0 v2
    refine pb_wl_ind (I := fun (s : Int32 × pb_HP) => G 40 [(0, .ref v0), (2, .int v2), (3, .int s.1)] [] s.2) (K := fun (e : (Int32 × pb_HP) ⊕ (pb_HP)) => pb_kk (fun (q_ : Int32 × pb_HP) => q_ = (r, hE)) (fun (x_ : pb_HP) => G 106 [(0, .ref v0), (2, .int v2)] [] x_) e) (fun s x hf hk => ?_)
    unfold f_91_40s at hf
    refine hG.1 3 40 kb_91_40 _ _ _ rfl ?_
    refine And.intro (fun (hc22 : 3 ≤ s.1) => ?_) (fun (hc22 : ¬ (3 ≤ s.1)) => ?_)
    · rw [if_pos hc22] at hf
      cases hf
      exact hG.2 106 _ [0, 1] _ _ _ rfl hk
    · rw [if_neg hc22] at hf
      obtain ⟨hg8, hf⟩ := pb_gd hf
      refine And.intro hg8 (?_)
      refine And.intro (fun (hc21 : (pb_S3.getD ((v2 * 3) + s.1).toNatClampNeg 0) = ((-1))) => ?_) (fun (hc21 : ¬ ((pb_S3.getD ((v2 * 3) + s.1).toNatClampNeg 0) = ((-1)))) => ?_)
      · rw [if_pos hc21] at hf
        cases hf
        exact hG.2 106 _ [0, 1] _ _ _ rfl hk
      · rw [if_neg hc21] at hf
        obtain ⟨hg9, hf⟩ := pb_gd hf
        obtain ⟨h11, cr10, hf⟩ := Option.bind_eq_some_iff.mp hf
        refine And.intro hg9 (And.intro (Nat.le_of_ble_eq_true rfl) (And.intro (Nat.le_of_ble_eq_true rfl) (Exists.intro none (Exists.intro _ (And.intro (l_88 cr10) (?_))))))
        obtain ⟨hg12, hf⟩ := pb_gd hf
        refine And.intro hg12 (?_)
        refine And.intro (fun (hc20 : (pb_I h11 v0 7) = 2) => ?_) (fun (hc20 : ¬ ((pb_I h11 v0 7) = 2)) => ?_)
        · rw [if_pos hc20] at hf
          refine hG.1 4 72 kb_91_72 _ _ _ rfl ?_
          obtain ⟨q13, eq13, hf⟩ := Option.bind_eq_some_iff.mp hf
          refine And.intro hg12 (Exists.intro q13 (And.intro eq13 (?_)))
          obtain ⟨r14, cr14, hf⟩ := Option.bind_eq_some_iff.mp hf
          refine And.intro hg12 (And.intro (Nat.le_of_ble_eq_true rfl) (And.intro (Nat.le_of_ble_eq_true rfl) (Exists.intro (some (.int r14)) (Exists.intro _ (And.intro (l_95 cr14) (?_))))))
          obtain ⟨hg15, hf⟩ := pb_gd hf
          refine And.intro hg15 (?_)
          obtain ⟨r16, cr16, hf⟩ := Option.bind_eq_some_iff.mp hf
          refine And.intro hg12 (And.intro (Nat.le_of_ble_eq_true rfl) (And.intro (Nat.le_of_ble_eq_true rfl) (Exists.intro (some (.int r16)) (Exists.intro _ (And.intro (l_96 cr16) (?_))))))
          refine And.intro (fun (hc19 : ¬ r16 = 0) => ?_) (fun (hc19 : ¬ (¬ r16 = 0)) => ?_)
          · rw [if_pos hc19] at hf
            refine hG.1 5 100 kb_91_100 _ _ _ rfl ?_
            cases hf
            exact hk
          · rw [if_neg hc19] at hf
            refine And.intro hg12 (?_)
            obtain ⟨h18, cr17, hf⟩ := Option.bind_eq_some_iff.mp hf
            refine And.intro hg12 (And.intro (Nat.le_of_ble_eq_true rfl) (And.intro (Nat.le_of_ble_eq_true rfl) (Exists.intro none (Exists.intro _ (And.intro (l_87 cr17) (?_))))))
            refine hG.1 5 100 kb_91_100 _ _ _ rfl ?_
            cases hf
            exact hk
        · rw [if_neg hc20] at hf
          cases hf
          cases hk
          exact And.intro (fun _ => Or.inl rfl) (And.intro rfl rfl)
  have hj_106 : ∀ (h : pb_HP) (v0 : Nat) (v2 : Int32), f_91_106 N h v0 v2 = some ((r, hE)) → G 106 [(0, .ref v0), (2, .int v2)] [] h := by
    intro h v0 v2 hf
    unfold f_91_106 at hf
    refine hG.1 6 106 kb_91_106 _ _ _ rfl ?_
    obtain ⟨hg26, hf⟩ := pb_gd hf
    obtain ⟨h28, cr27, hf⟩ := Option.bind_eq_some_iff.mp hf
    refine And.intro hg26 (And.intro (Nat.le_of_ble_eq_true rfl) (And.intro (Nat.le_of_ble_eq_true rfl) (Exists.intro none (Exists.intro _ (And.intro (l_88 cr27) (?_))))))
    obtain ⟨hg29, hf⟩ := pb_gd hf
    refine And.intro hg29 (?_)
    refine And.intro (fun (hc33 : (pb_I h28 v0 7) = 3) => ?_) (fun (hc33 : ¬ ((pb_I h28 v0 7) = 3)) => ?_)
    · rw [if_pos hc33] at hf
      refine hG.1 7 120 kb_91_120 _ _ _ rfl ?_
      refine And.intro hg29 (?_)
      refine And.intro (fun (hc32 : ¬ (pb_I h28 v0 3) = 0) => ?_) (fun (hc32 : ¬ (¬ (pb_I h28 v0 3) = 0)) => ?_)
      · rw [if_pos hc32] at hf
        refine hG.1 8 132 kb_91_132 _ _ _ rfl ?_
        cases hf
        exact And.intro (fun _ => Or.inr rfl) (And.intro rfl rfl)
      · rw [if_neg hc32] at hf
        obtain ⟨h31, cr30, hf⟩ := Option.bind_eq_some_iff.mp hf
        refine And.intro hg29 (And.intro (Nat.le_of_ble_eq_true rfl) (And.intro (Nat.le_of_ble_eq_true rfl) (Exists.intro none (Exists.intro _ (And.intro (l_97 cr30) (?_))))))
        refine hG.1 8 132 kb_91_132 _ _ _ rfl ?_
        cases hf
        exact And.intro (fun _ => Or.inr rfl) (And.intro rfl rfl)
    · rw [if_neg hc33] at hf
      cases hf
      exact And.intro (fun _ => Or.inl rfl) (And.intro rfl rfl)
  have hj_30 : ∀ (h : pb_HP) (v0 : Nat) (v2 : Int32), f_91_30 N h v0 v2 = some ((r, hE)) → G 30 [(0, .ref v0), (2, .int v2)] [] h := by
    intro h v0 v2 hf
    unfold f_91_30 at hf
    refine hG.1 2 30 kb_91_30 _ _ _ rfl ?_
    obtain ⟨hg4, hf⟩ := pb_gd hf
    obtain ⟨q5, eq5, hf⟩ := Option.bind_eq_some_iff.mp hf
    refine And.intro hg4 (Exists.intro q5 (And.intro eq5 (?_)))
    obtain ⟨h7, cr6, hf⟩ := Option.bind_eq_some_iff.mp hf
    refine And.intro (Nat.le_of_ble_eq_true rfl) (And.intro (Nat.le_of_ble_eq_true rfl) (And.intro (Nat.le_of_ble_eq_true rfl) (Exists.intro none (Exists.intro _ (And.intro (l_306 cr6) (?_))))))
    obtain ⟨e23, he_e23, hf⟩ := Option.bind_eq_some_iff.mp hf
    refine hl_40 _ _ _ _ _ he_e23 ?_
    cases e23 with
    | inl q25 =>
      exact Option.some.inj hf
    | inr x24 =>
      try dsimp only at hf
      exact hj_106 _ _ _ hf
  unfold f_91 at hf
  refine hG.1 0 0 kb_91_0 _ _ _ rfl ?_
  obtain ⟨hg1, hf⟩ := pb_gd hf
  obtain ⟨r2, cr2, hf⟩ := Option.bind_eq_some_iff.mp hf
  refine And.intro hg1 (And.intro (Nat.le_of_ble_eq_true rfl) (And.intro (Nat.le_of_ble_eq_true rfl) (Exists.intro (some (.int r2)) (Exists.intro _ (And.intro (l_92 cr2) (?_))))))
  refine And.intro (fun (hc37 : ¬ r2 = ((-1))) => ?_) (fun (hc37 : ¬ (¬ r2 = ((-1)))) => ?_)
  · rw [if_pos hc37] at hf
    refine hG.1 1 13 kb_91_13 _ _ _ rfl ?_
    obtain ⟨r3, cr3, hf⟩ := Option.bind_eq_some_iff.mp hf
    refine And.intro hg1 (And.intro (Nat.le_of_ble_eq_true rfl) (And.intro (Nat.le_of_ble_eq_true rfl) (Exists.intro (some (.int r3)) (Exists.intro _ (And.intro (l_94 cr3) (?_))))))
    refine And.intro (fun (hc36 : r3 = 0) => ?_) (fun (hc36 : ¬ (r3 = 0)) => ?_)
    · rw [if_pos hc36] at hf
      refine hG.2 30 _ [0, 2] _ _ _ rfl ?_
      exact hj_30 _ _ _ hf
    · rw [if_neg hc36] at hf
      refine And.intro hg1 (?_)
      obtain ⟨h35, cr34, hf⟩ := Option.bind_eq_some_iff.mp hf
      refine And.intro hg1 (And.intro (Nat.le_of_ble_eq_true rfl) (And.intro (Nat.le_of_ble_eq_true rfl) (Exists.intro none (Exists.intro _ (And.intro (l_87 cr34) (?_))))))
      refine hG.2 30 _ [0, 2] _ _ _ rfl ?_
      exact hj_30 _ _ _ hf
  · rw [if_neg hc37] at hf
    cases hf
    exact And.intro (fun _ => Or.inl rfl) (And.intro rfl rfl)
/-- Trial.chosen -/
def f_109 (N : Nat) (h : pb_HP) (v0 : Nat) : Option (Int32 × pb_HP) :=
  if pb_is h v0 8 then ((pb_R h v0 1).bind fun q2 => ((pb_R h v0 0).bind fun q3 => (if pb_is h q2 5 then ((f_76 N h q2 q3).bind fun h6 => (if pb_is h6 v0 8 then ((pb_R h6 v0 1).bind fun q8 => (if pb_is h6 q8 5 then ((f_77 N h6 q8 63).bind fun r10 => (some ((r10, h6)))) else none)) else none)) else none))) else none
set_option maxRecDepth 4000 in
theorem l_109 {xs : List Int32} {d : Nat} {N : Nat} {h : pb_HP} {v0 : Nat} {r : Int32} {hE : pb_HP} (hf : f_109 N h v0 = some ((r, hE))) : pb_AR xs (d + 4) 109 h [.ref v0] (some (.int r)) hE := by
  intro G hG
  have hc_ : pb_CODE 109 = kc_109 := rfl
  rw [hc_] at hG
  unfold f_109 at hf
  refine hG.1 0 0 kb_109_0 _ _ _ rfl ?_
  obtain ⟨hg1, hf⟩ := pb_gd hf
  obtain ⟨q2, eq2, hf⟩ := Option.bind_eq_some_iff.mp hf
  obtain ⟨q3, eq3, hf⟩ := Option.bind_eq_some_iff.mp hf
  obtain ⟨hg4, hf⟩ := pb_gd hf
  refine And.intro hg1 (Exists.intro q2 (And.intro eq2 (And.intro hg1 (Exists.intro q3 (And.intro eq3 (?_))))))
  obtain ⟨h6, cr5, hf⟩ := Option.bind_eq_some_iff.mp hf
  refine And.intro hg4 (And.intro (Nat.le_of_ble_eq_true rfl) (And.intro (Nat.le_of_ble_eq_true rfl) (Exists.intro none (Exists.intro _ (And.intro (l_76 cr5) (?_))))))
  obtain ⟨hg7, hf⟩ := pb_gd hf
  obtain ⟨q8, eq8, hf⟩ := Option.bind_eq_some_iff.mp hf
  obtain ⟨hg9, hf⟩ := pb_gd hf
  refine And.intro hg7 (Exists.intro q8 (And.intro eq8 (?_)))
  obtain ⟨r10, cr10, hf⟩ := Option.bind_eq_some_iff.mp hf
  refine And.intro hg9 (And.intro (Nat.le_of_ble_eq_true rfl) (And.intro (Nat.le_of_ble_eq_true rfl) (Exists.intro (some (.int r10)) (Exists.intro _ (And.intro (l_77 cr10) (?_))))))
  cases hf
  exact And.intro (fun z_ => absurd z_ (by decide)) (And.intro rfl rfl)
/-- Trial.voters -/
def f_110 (N : Nat) (h : pb_HP) (v0 : Nat) : Option (Int32 × pb_HP) :=
  if pb_is h v0 8 then ((pb_R h v0 1).bind fun q2 => ((pb_R h v0 0).bind fun q3 => (if pb_is h q2 5 then ((f_76 N h q2 q3).bind fun h6 => (if pb_is h6 v0 8 then ((pb_R h6 v0 1).bind fun q8 => (if pb_is h6 q8 5 then (some ((pb_I h6 q8 0, h6))) else none)) else none)) else none))) else none
set_option maxRecDepth 4000 in
theorem l_110 {xs : List Int32} {d : Nat} {N : Nat} {h : pb_HP} {v0 : Nat} {r : Int32} {hE : pb_HP} (hf : f_110 N h v0 = some ((r, hE))) : pb_AR xs (d + 4) 110 h [.ref v0] (some (.int r)) hE := by
  intro G hG
  have hc_ : pb_CODE 110 = kc_110 := rfl
  rw [hc_] at hG
  unfold f_110 at hf
  refine hG.1 0 0 kb_110_0 _ _ _ rfl ?_
  obtain ⟨hg1, hf⟩ := pb_gd hf
  obtain ⟨q2, eq2, hf⟩ := Option.bind_eq_some_iff.mp hf
  obtain ⟨q3, eq3, hf⟩ := Option.bind_eq_some_iff.mp hf
  obtain ⟨hg4, hf⟩ := pb_gd hf
  refine And.intro hg1 (Exists.intro q2 (And.intro eq2 (And.intro hg1 (Exists.intro q3 (And.intro eq3 (?_))))))
  obtain ⟨h6, cr5, hf⟩ := Option.bind_eq_some_iff.mp hf
  refine And.intro hg4 (And.intro (Nat.le_of_ble_eq_true rfl) (And.intro (Nat.le_of_ble_eq_true rfl) (Exists.intro none (Exists.intro _ (And.intro (l_76 cr5) (?_))))))
  obtain ⟨hg7, hf⟩ := pb_gd hf
  obtain ⟨q8, eq8, hf⟩ := Option.bind_eq_some_iff.mp hf
  obtain ⟨hg9, hf⟩ := pb_gd hf
  refine And.intro hg7 (Exists.intro q8 (And.intro eq8 (And.intro hg9 (?_))))
  cases hf
  exact And.intro (fun z_ => absurd z_ (by decide)) (And.intro rfl rfl)
/-- PointedBench.county -/
def f_128 (h : pb_HP) (v0 : Nat) (v1 : Int32) (v2 : Int32) : Option (Int32) :=
  if pb_is h v0 10 then ((pb_R h v0 0).bind fun q2 => (if pb_is h q2 7 then ((f_105 h q2 v1).bind fun r4 => (match r4 with | none => (some ((-1))) | some q5 => (if pb_is h q5 0 then ((f_5 h q5 v2).bind fun r7 => (some r7)) else none))) else none)) else none
set_option maxRecDepth 4000 in
theorem l_128 {xs : List Int32} {d : Nat} {h : pb_HP} {v0 : Nat} {v1 : Int32} {v2 : Int32} {r : Int32} (hf : f_128 h v0 v1 v2 = some r) : pb_AR xs (d + 4) 128 h [.ref v0, .int v1, .int v2] (some (.int r)) h := by
  intro G hG
  have hc_ : pb_CODE 128 = kc_128 := rfl
  rw [hc_] at hG
  unfold f_128 at hf
  refine hG.1 0 0 kb_128_0 _ _ _ rfl ?_
  obtain ⟨hg1, hf⟩ := pb_gd hf
  obtain ⟨q2, eq2, hf⟩ := Option.bind_eq_some_iff.mp hf
  obtain ⟨hg3, hf⟩ := pb_gd hf
  refine And.intro hg1 (Exists.intro q2 (And.intro eq2 (?_)))
  obtain ⟨r4, cr4, hf⟩ := Option.bind_eq_some_iff.mp hf
  refine And.intro hg3 (And.intro (Nat.le_of_ble_eq_true rfl) (And.intro (Nat.le_of_ble_eq_true rfl) (Exists.intro (some (pb_rv r4)) (Exists.intro _ (And.intro (l_105 cr4) (?_))))))
  cases r4 with
  | none =>
    try dsimp only at hf
    refine hG.1 2 22 kb_128_22 _ _ _ rfl ?_
    cases hf
    exact And.intro (fun z_ => absurd z_ (by decide)) (And.intro rfl rfl)
  | some q5 =>
    try dsimp only at hf
    refine hG.1 1 17 kb_128_17 _ _ _ rfl ?_
    obtain ⟨hg6, hf⟩ := pb_gd hf
    obtain ⟨r7, cr7, hf⟩ := Option.bind_eq_some_iff.mp hf
    refine And.intro hg6 (And.intro (Nat.le_of_ble_eq_true rfl) (And.intro (Nat.le_of_ble_eq_true rfl) (Exists.intro (some (.int r7)) (Exists.intro _ (And.intro (l_5 cr7) (?_))))))
    refine hG.1 2 22 kb_128_22 _ _ _ rfl ?_
    cases hf
    exact And.intro (fun z_ => absurd z_ (by decide)) (And.intro rfl rfl)
/-- PointedBench.picked -/
def f_132 (N : Nat) (h : pb_HP) (v0 : Nat) (v1 : Int32) (v2 : Int32) : Option (Int32 × pb_HP) :=
  if pb_is h v0 10 then ((pb_R h v0 0).bind fun q2 => (if pb_is h q2 7 then ((f_105 h q2 v1).bind fun r4 => (match r4 with | none => (some (((-1), h))) | some q5 => (if v2 < 0 then (some (((-1), h))) else (if v2 ≤ 63 then ((pb_R h v0 4).bind fun q6 => (if pb_is h q6 5 then ((f_76 N h q6 q5).bind fun h9 => (if pb_is h9 v0 10 then ((pb_R h9 v0 4).bind fun q11 => (if pb_is h9 q11 5 then ((f_77 N h9 q11 v2).bind fun r13 => (some ((r13, h9)))) else none)) else none)) else none)) else (some (((-1), h))))))) else none)) else none
set_option maxRecDepth 4000 in
theorem l_132 {xs : List Int32} {d : Nat} {N : Nat} {h : pb_HP} {v0 : Nat} {v1 : Int32} {v2 : Int32} {r : Int32} {hE : pb_HP} (hf : f_132 N h v0 v1 v2 = some ((r, hE))) : pb_AR xs (d + 4) 132 h [.ref v0, .int v1, .int v2] (some (.int r)) hE := by
  intro G hG
  have hc_ : pb_CODE 132 = kc_132 := rfl
  rw [hc_] at hG
  unfold f_132 at hf
  refine hG.1 0 0 kb_132_0 _ _ _ rfl ?_
  obtain ⟨hg1, hf⟩ := pb_gd hf
  obtain ⟨q2, eq2, hf⟩ := Option.bind_eq_some_iff.mp hf
  obtain ⟨hg3, hf⟩ := pb_gd hf
  refine And.intro hg1 (Exists.intro q2 (And.intro eq2 (?_)))
  obtain ⟨r4, cr4, hf⟩ := Option.bind_eq_some_iff.mp hf
  refine And.intro hg3 (And.intro (Nat.le_of_ble_eq_true rfl) (And.intro (Nat.le_of_ble_eq_true rfl) (Exists.intro (some (pb_rv r4)) (Exists.intro _ (And.intro (l_105 cr4) (?_))))))
  cases r4 with
  | none =>
    try dsimp only at hf
    refine hG.1 1 23 kb_132_23 _ _ _ rfl ?_
    cases hf
    exact And.intro (fun z_ => absurd z_ (by decide)) (And.intro rfl rfl)
  | some q5 =>
    try dsimp only at hf
    refine And.intro (fun (hc15 : v2 < 0) => ?_) (fun (hc15 : ¬ (v2 < 0)) => ?_)
    · rw [if_pos hc15] at hf
      refine hG.1 1 23 kb_132_23 _ _ _ rfl ?_
      cases hf
      exact And.intro (fun z_ => absurd z_ (by decide)) (And.intro rfl rfl)
    · rw [if_neg hc15] at hf
      refine And.intro (fun (hc14 : v2 ≤ 63) => ?_) (fun (hc14 : ¬ (v2 ≤ 63)) => ?_)
      · rw [if_pos hc14] at hf
        refine hG.1 2 25 kb_132_25 _ _ _ rfl ?_
        obtain ⟨q6, eq6, hf⟩ := Option.bind_eq_some_iff.mp hf
        obtain ⟨hg7, hf⟩ := pb_gd hf
        refine And.intro hg1 (Exists.intro q6 (And.intro eq6 (?_)))
        obtain ⟨h9, cr8, hf⟩ := Option.bind_eq_some_iff.mp hf
        refine And.intro hg7 (And.intro (Nat.le_of_ble_eq_true rfl) (And.intro (Nat.le_of_ble_eq_true rfl) (Exists.intro none (Exists.intro _ (And.intro (l_76 cr8) (?_))))))
        obtain ⟨hg10, hf⟩ := pb_gd hf
        obtain ⟨q11, eq11, hf⟩ := Option.bind_eq_some_iff.mp hf
        obtain ⟨hg12, hf⟩ := pb_gd hf
        refine And.intro hg10 (Exists.intro q11 (And.intro eq11 (?_)))
        obtain ⟨r13, cr13, hf⟩ := Option.bind_eq_some_iff.mp hf
        refine And.intro hg12 (And.intro (Nat.le_of_ble_eq_true rfl) (And.intro (Nat.le_of_ble_eq_true rfl) (Exists.intro (some (.int r13)) (Exists.intro _ (And.intro (l_77 cr13) (?_))))))
        cases hf
        exact And.intro (fun z_ => absurd z_ (by decide)) (And.intro rfl rfl)
      · rw [if_neg hc14] at hf
        refine hG.1 1 23 kb_132_23 _ _ _ rfl ?_
        cases hf
        exact And.intro (fun z_ => absurd z_ (by decide)) (And.intro rfl rfl)
/-- PointedBench.bench -/
def f_134 (N : Nat) (h : pb_HP) (v0 : Nat) (v1 : Int32) (v2 : Int32) (v3 : Int32) : Option (Int32 × pb_HP) :=
  if pb_is h v0 10 then ((pb_R h v0 0).bind fun q2 => (if pb_is h q2 7 then ((f_105 h q2 v1).bind fun r4 => (match r4 with | none => (some (((-1), h))) | some q5 => (if pb_is h q5 0 then ((f_3 h q5 v2).bind fun r7 => (if ¬ r7 = 0 then ((pb_R h v0 4).bind fun q8 => (if pb_is h q8 5 then ((f_76 N h q8 q5).bind fun h11 => (if pb_is h11 v0 10 then ((pb_R h11 v0 4).bind fun q13 => (if pb_is h11 q13 5 then ((f_79 N h11 q13 v2).bind fun r15 => ((f_164 r15 v3).bind fun r16 => (some ((r16, h11))))) else none)) else none)) else none)) else (some (((-1), h))))) else none))) else none)) else none
set_option maxRecDepth 4000 in
theorem l_134 {xs : List Int32} {d : Nat} {N : Nat} {h : pb_HP} {v0 : Nat} {v1 : Int32} {v2 : Int32} {v3 : Int32} {r : Int32} {hE : pb_HP} (hf : f_134 N h v0 v1 v2 v3 = some ((r, hE))) : pb_AR xs (d + 4) 134 h [.ref v0, .int v1, .int v2, .int v3] (some (.int r)) hE := by
  intro G hG
  have hc_ : pb_CODE 134 = kc_134 := rfl
  rw [hc_] at hG
  unfold f_134 at hf
  refine hG.1 0 0 kb_134_0 _ _ _ rfl ?_
  obtain ⟨hg1, hf⟩ := pb_gd hf
  obtain ⟨q2, eq2, hf⟩ := Option.bind_eq_some_iff.mp hf
  obtain ⟨hg3, hf⟩ := pb_gd hf
  refine And.intro hg1 (Exists.intro q2 (And.intro eq2 (?_)))
  obtain ⟨r4, cr4, hf⟩ := Option.bind_eq_some_iff.mp hf
  refine And.intro hg3 (And.intro (Nat.le_of_ble_eq_true rfl) (And.intro (Nat.le_of_ble_eq_true rfl) (Exists.intro (some (pb_rv r4)) (Exists.intro _ (And.intro (l_105 cr4) (?_))))))
  cases r4 with
  | none =>
    try dsimp only at hf
    refine hG.1 1 24 kb_134_24 _ _ _ rfl ?_
    cases hf
    exact And.intro (fun z_ => absurd z_ (by decide)) (And.intro rfl rfl)
  | some q5 =>
    try dsimp only at hf
    obtain ⟨hg6, hf⟩ := pb_gd hf
    obtain ⟨r7, cr7, hf⟩ := Option.bind_eq_some_iff.mp hf
    refine And.intro hg6 (And.intro (Nat.le_of_ble_eq_true rfl) (And.intro (Nat.le_of_ble_eq_true rfl) (Exists.intro (some (.int r7)) (Exists.intro _ (And.intro (l_3 cr7) (?_))))))
    refine And.intro (fun (hc17 : ¬ r7 = 0) => ?_) (fun (hc17 : ¬ (¬ r7 = 0)) => ?_)
    · rw [if_pos hc17] at hf
      refine hG.1 2 26 kb_134_26 _ _ _ rfl ?_
      obtain ⟨q8, eq8, hf⟩ := Option.bind_eq_some_iff.mp hf
      obtain ⟨hg9, hf⟩ := pb_gd hf
      refine And.intro hg1 (Exists.intro q8 (And.intro eq8 (?_)))
      obtain ⟨h11, cr10, hf⟩ := Option.bind_eq_some_iff.mp hf
      refine And.intro hg9 (And.intro (Nat.le_of_ble_eq_true rfl) (And.intro (Nat.le_of_ble_eq_true rfl) (Exists.intro none (Exists.intro _ (And.intro (l_76 cr10) (?_))))))
      obtain ⟨hg12, hf⟩ := pb_gd hf
      obtain ⟨q13, eq13, hf⟩ := Option.bind_eq_some_iff.mp hf
      obtain ⟨hg14, hf⟩ := pb_gd hf
      refine And.intro hg12 (Exists.intro q13 (And.intro eq13 (?_)))
      obtain ⟨r15, cr15, hf⟩ := Option.bind_eq_some_iff.mp hf
      refine And.intro hg14 (And.intro (Nat.le_of_ble_eq_true rfl) (And.intro (Nat.le_of_ble_eq_true rfl) (Exists.intro (some (.int r15)) (Exists.intro _ (And.intro (l_79 cr15) (?_))))))
      obtain ⟨r16, cr16, hf⟩ := Option.bind_eq_some_iff.mp hf
      refine And.intro (Nat.le_of_ble_eq_true rfl) (And.intro (Nat.le_of_ble_eq_true rfl) (And.intro (Nat.le_of_ble_eq_true rfl) (Exists.intro (some (.int r16)) (Exists.intro _ (And.intro (l_164 cr16) (?_))))))
      cases hf
      exact And.intro (fun z_ => absurd z_ (by decide)) (And.intro rfl rfl)
    · rw [if_neg hc17] at hf
      refine hG.1 1 24 kb_134_24 _ _ _ rfl ?_
      cases hf
      exact And.intro (fun z_ => absurd z_ (by decide)) (And.intro rfl rfl)
/-- PointedBench.power -/
def f_135 (N : Nat) (h : pb_HP) (v0 : Nat) (v1 : Int32) (v2 : Int32) (v3 : Int32) : Option (Int64 × pb_HP) :=
  if pb_is h v0 10 then ((pb_R h v0 0).bind fun q2 => (if pb_is h q2 7 then ((f_105 h q2 v1).bind fun r4 => (match r4 with | none => (some (((-1), h))) | some q5 => (if pb_is h q5 0 then ((f_7 h q5 v2).bind fun r7 => (if ¬ r7 = 0 then ((pb_R h v0 4).bind fun q8 => (if pb_is h q8 5 then ((f_76 N h q8 q5).bind fun h11 => (if pb_is h11 v0 10 then ((pb_R h11 v0 4).bind fun q13 => (if pb_is h11 q13 5 then ((f_82 N h11 q13 v2).bind fun r15 => ((f_305 ((pb_I h11 q13 0) &&& (((1 : Int32) <<< (v2 &&& 31)) ^^^ ((-1))))).bind fun r16 => ((f_165 N (Int32.toInt64 r15) (Int32.toInt64 ((1 : Int32) <<< (r16 &&& 31))) v3).bind fun r17 => (some ((r17, h11)))))) else none)) else none)) else none)) else (some (((-1), h))))) else none))) else none)) else none
set_option maxRecDepth 4000 in
theorem l_135 {xs : List Int32} {d : Nat} {N : Nat} {h : pb_HP} {v0 : Nat} {v1 : Int32} {v2 : Int32} {v3 : Int32} {r : Int64} {hE : pb_HP} (hf : f_135 N h v0 v1 v2 v3 = some ((r, hE))) : pb_AR xs (d + 4) 135 h [.ref v0, .int v1, .int v2, .int v3] (some (.long r)) hE := by
  intro G hG
  have hc_ : pb_CODE 135 = kc_135 := rfl
  rw [hc_] at hG
  unfold f_135 at hf
  refine hG.1 0 0 kb_135_0 _ _ _ rfl ?_
  obtain ⟨hg1, hf⟩ := pb_gd hf
  obtain ⟨q2, eq2, hf⟩ := Option.bind_eq_some_iff.mp hf
  obtain ⟨hg3, hf⟩ := pb_gd hf
  refine And.intro hg1 (Exists.intro q2 (And.intro eq2 (?_)))
  obtain ⟨r4, cr4, hf⟩ := Option.bind_eq_some_iff.mp hf
  refine And.intro hg3 (And.intro (Nat.le_of_ble_eq_true rfl) (And.intro (Nat.le_of_ble_eq_true rfl) (Exists.intro (some (pb_rv r4)) (Exists.intro _ (And.intro (l_105 cr4) (?_))))))
  cases r4 with
  | none =>
    try dsimp only at hf
    refine hG.1 1 24 kb_135_24 _ _ _ rfl ?_
    cases hf
    exact And.intro rfl rfl
  | some q5 =>
    try dsimp only at hf
    obtain ⟨hg6, hf⟩ := pb_gd hf
    obtain ⟨r7, cr7, hf⟩ := Option.bind_eq_some_iff.mp hf
    refine And.intro hg6 (And.intro (Nat.le_of_ble_eq_true rfl) (And.intro (Nat.le_of_ble_eq_true rfl) (Exists.intro (some (.int r7)) (Exists.intro _ (And.intro (l_7 cr7) (?_))))))
    refine And.intro (fun (hc18 : ¬ r7 = 0) => ?_) (fun (hc18 : ¬ (¬ r7 = 0)) => ?_)
    · rw [if_pos hc18] at hf
      refine hG.1 2 28 kb_135_28 _ _ _ rfl ?_
      obtain ⟨q8, eq8, hf⟩ := Option.bind_eq_some_iff.mp hf
      obtain ⟨hg9, hf⟩ := pb_gd hf
      refine And.intro hg1 (Exists.intro q8 (And.intro eq8 (?_)))
      obtain ⟨h11, cr10, hf⟩ := Option.bind_eq_some_iff.mp hf
      refine And.intro hg9 (And.intro (Nat.le_of_ble_eq_true rfl) (And.intro (Nat.le_of_ble_eq_true rfl) (Exists.intro none (Exists.intro _ (And.intro (l_76 cr10) (?_))))))
      obtain ⟨hg12, hf⟩ := pb_gd hf
      obtain ⟨q13, eq13, hf⟩ := Option.bind_eq_some_iff.mp hf
      obtain ⟨hg14, hf⟩ := pb_gd hf
      refine And.intro hg12 (Exists.intro q13 (And.intro eq13 (And.intro hg14 (And.intro hg12 (Exists.intro q13 (And.intro eq13 (?_)))))))
      obtain ⟨r15, cr15, hf⟩ := Option.bind_eq_some_iff.mp hf
      refine And.intro hg14 (And.intro (Nat.le_of_ble_eq_true rfl) (And.intro (Nat.le_of_ble_eq_true rfl) (Exists.intro (some (.int r15)) (Exists.intro _ (And.intro (l_82 cr15) (?_))))))
      obtain ⟨r16, cr16, hf⟩ := Option.bind_eq_some_iff.mp hf
      refine And.intro (Nat.le_of_ble_eq_true rfl) (And.intro (Nat.le_of_ble_eq_true rfl) (And.intro (Nat.le_of_ble_eq_true rfl) (Exists.intro (some (.int r16)) (Exists.intro _ (And.intro (l_305 cr16) (?_))))))
      obtain ⟨r17, cr17, hf⟩ := Option.bind_eq_some_iff.mp hf
      refine And.intro (Nat.le_of_ble_eq_true rfl) (And.intro (Nat.le_of_ble_eq_true rfl) (And.intro (Nat.le_of_ble_eq_true rfl) (Exists.intro (some (.long r17)) (Exists.intro _ (And.intro (l_165 cr17) (?_))))))
      cases hf
      exact And.intro rfl rfl
    · rw [if_neg hc18] at hf
      refine hG.1 1 24 kb_135_24 _ _ _ rfl ?_
      cases hf
      exact And.intro rfl rfl
/-- PointedBench.ban -/
def f_136 (N : Nat) (h : pb_HP) (v0 : Nat) (v1 : Int32) (v2 : Int32) : Option (Int32 × pb_HP) :=
  if pb_is h v0 10 then ((pb_R h v0 0).bind fun q2 => (if pb_is h q2 7 then ((f_105 h q2 v1).bind fun r4 => (match r4 with | none => (some (((-1), h))) | some q5 => ((pb_R h v0 5).bind fun q6 => (if pb_is h q6 8 then ((f_113 N h q6 q5 v2).bind fun (r8, h9) => (some ((r8, h9)))) else none)))) else none)) else none
set_option maxRecDepth 4000 in
theorem l_136 {xs : List Int32} {d : Nat} {N : Nat} {h : pb_HP} {v0 : Nat} {v1 : Int32} {v2 : Int32} {r : Int32} {hE : pb_HP} (hf : f_136 N h v0 v1 v2 = some ((r, hE))) : pb_AR xs (d + 4) 136 h [.ref v0, .int v1, .int v2] (some (.int r)) hE := by
  intro G hG
  have hc_ : pb_CODE 136 = kc_136 := rfl
  rw [hc_] at hG
  unfold f_136 at hf
  refine hG.1 0 0 kb_136_0 _ _ _ rfl ?_
  obtain ⟨hg1, hf⟩ := pb_gd hf
  obtain ⟨q2, eq2, hf⟩ := Option.bind_eq_some_iff.mp hf
  obtain ⟨hg3, hf⟩ := pb_gd hf
  refine And.intro hg1 (Exists.intro q2 (And.intro eq2 (?_)))
  obtain ⟨r4, cr4, hf⟩ := Option.bind_eq_some_iff.mp hf
  refine And.intro hg3 (And.intro (Nat.le_of_ble_eq_true rfl) (And.intro (Nat.le_of_ble_eq_true rfl) (Exists.intro (some (pb_rv r4)) (Exists.intro _ (And.intro (l_105 cr4) (?_))))))
  cases r4 with
  | none =>
    try dsimp only at hf
    refine hG.1 2 26 kb_136_26 _ _ _ rfl ?_
    cases hf
    exact And.intro (fun z_ => absurd z_ (by decide)) (And.intro rfl rfl)
  | some q5 =>
    try dsimp only at hf
    refine hG.1 1 17 kb_136_17 _ _ _ rfl ?_
    obtain ⟨q6, eq6, hf⟩ := Option.bind_eq_some_iff.mp hf
    obtain ⟨hg7, hf⟩ := pb_gd hf
    refine And.intro hg1 (Exists.intro q6 (And.intro eq6 (?_)))
    obtain ⟨⟨r8, h9⟩, cr8, hf⟩ := Option.bind_eq_some_iff.mp hf
    try dsimp only at hf
    refine And.intro hg7 (And.intro (Nat.le_of_ble_eq_true rfl) (And.intro (Nat.le_of_ble_eq_true rfl) (Exists.intro (some (.int r8)) (Exists.intro _ (And.intro (l_113 cr8) (?_))))))
    refine hG.1 2 26 kb_136_26 _ _ _ rfl ?_
    cases hf
    exact And.intro (fun z_ => absurd z_ (by decide)) (And.intro rfl rfl)
/-- PointedBench.duel -/
def f_142 (N : Nat) (h : pb_HP) (v0 : Nat) (v1 : Int32) (v2 : Int32) (v3 : Int32) : Option (Int32 × pb_HP) :=
  if pb_is h v0 10 then ((pb_R h v0 0).bind fun q2 => (if pb_is h q2 7 then ((f_105 h q2 v1).bind fun r4 => (match r4 with | none => (some (((-1), h))) | some q5 => (if pb_is h q5 0 then ((f_3 h q5 v2).bind fun r7 => (if r7 = 0 then (some (((-1), h))) else ((f_3 h q5 v3).bind fun r8 => (if r8 = 0 then (some (((-1), h))) else (if ¬ v2 = v3 then ((pb_R h v0 6).bind fun q9 => (if pb_is h q9 2 then ((f_50 N h q9 q5).bind fun h12 => (if pb_is h12 v0 10 then ((pb_R h12 v0 6).bind fun q14 => (if pb_is h12 q14 2 then ((f_52 h12 q14 v2 v3).bind fun r16 => (some ((r16, h12)))) else none)) else none)) else none)) else (some (((-1), h)))))))) else none))) else none)) else none
set_option maxRecDepth 4000 in
theorem l_142 {xs : List Int32} {d : Nat} {N : Nat} {h : pb_HP} {v0 : Nat} {v1 : Int32} {v2 : Int32} {v3 : Int32} {r : Int32} {hE : pb_HP} (hf : f_142 N h v0 v1 v2 v3 = some ((r, hE))) : pb_AR xs (d + 4) 142 h [.ref v0, .int v1, .int v2, .int v3] (some (.int r)) hE := by
  intro G hG
  have hc_ : pb_CODE 142 = kc_142 := rfl
  rw [hc_] at hG
  unfold f_142 at hf
  refine hG.1 0 0 kb_142_0 _ _ _ rfl ?_
  obtain ⟨hg1, hf⟩ := pb_gd hf
  obtain ⟨q2, eq2, hf⟩ := Option.bind_eq_some_iff.mp hf
  obtain ⟨hg3, hf⟩ := pb_gd hf
  refine And.intro hg1 (Exists.intro q2 (And.intro eq2 (?_)))
  obtain ⟨r4, cr4, hf⟩ := Option.bind_eq_some_iff.mp hf
  refine And.intro hg3 (And.intro (Nat.le_of_ble_eq_true rfl) (And.intro (Nat.le_of_ble_eq_true rfl) (Exists.intro (some (pb_rv r4)) (Exists.intro _ (And.intro (l_105 cr4) (?_))))))
  cases r4 with
  | none =>
    try dsimp only at hf
    refine hG.1 1 38 kb_142_38 _ _ _ rfl ?_
    cases hf
    exact And.intro (fun z_ => absurd z_ (by decide)) (And.intro rfl rfl)
  | some q5 =>
    try dsimp only at hf
    obtain ⟨hg6, hf⟩ := pb_gd hf
    obtain ⟨r7, cr7, hf⟩ := Option.bind_eq_some_iff.mp hf
    refine And.intro hg6 (And.intro (Nat.le_of_ble_eq_true rfl) (And.intro (Nat.le_of_ble_eq_true rfl) (Exists.intro (some (.int r7)) (Exists.intro _ (And.intro (l_3 cr7) (?_))))))
    refine And.intro (fun (hc19 : r7 = 0) => ?_) (fun (hc19 : ¬ (r7 = 0)) => ?_)
    · rw [if_pos hc19] at hf
      refine hG.1 1 38 kb_142_38 _ _ _ rfl ?_
      cases hf
      exact And.intro (fun z_ => absurd z_ (by decide)) (And.intro rfl rfl)
    · rw [if_neg hc19] at hf
      obtain ⟨r8, cr8, hf⟩ := Option.bind_eq_some_iff.mp hf
      refine And.intro hg6 (And.intro (Nat.le_of_ble_eq_true rfl) (And.intro (Nat.le_of_ble_eq_true rfl) (Exists.intro (some (.int r8)) (Exists.intro _ (And.intro (l_3 cr8) (?_))))))
      refine And.intro (fun (hc18 : r8 = 0) => ?_) (fun (hc18 : ¬ (r8 = 0)) => ?_)
      · rw [if_pos hc18] at hf
        refine hG.1 1 38 kb_142_38 _ _ _ rfl ?_
        cases hf
        exact And.intro (fun z_ => absurd z_ (by decide)) (And.intro rfl rfl)
      · rw [if_neg hc18] at hf
        refine And.intro (fun (hc17 : ¬ v2 = v3) => ?_) (fun (hc17 : ¬ (¬ v2 = v3)) => ?_)
        · rw [if_pos hc17] at hf
          refine hG.1 2 40 kb_142_40 _ _ _ rfl ?_
          obtain ⟨q9, eq9, hf⟩ := Option.bind_eq_some_iff.mp hf
          obtain ⟨hg10, hf⟩ := pb_gd hf
          refine And.intro hg1 (Exists.intro q9 (And.intro eq9 (?_)))
          obtain ⟨h12, cr11, hf⟩ := Option.bind_eq_some_iff.mp hf
          refine And.intro hg10 (And.intro (Nat.le_of_ble_eq_true rfl) (And.intro (Nat.le_of_ble_eq_true rfl) (Exists.intro none (Exists.intro _ (And.intro (l_50 cr11) (?_))))))
          obtain ⟨hg13, hf⟩ := pb_gd hf
          obtain ⟨q14, eq14, hf⟩ := Option.bind_eq_some_iff.mp hf
          obtain ⟨hg15, hf⟩ := pb_gd hf
          refine And.intro hg13 (Exists.intro q14 (And.intro eq14 (?_)))
          obtain ⟨r16, cr16, hf⟩ := Option.bind_eq_some_iff.mp hf
          refine And.intro hg15 (And.intro (Nat.le_of_ble_eq_true rfl) (And.intro (Nat.le_of_ble_eq_true rfl) (Exists.intro (some (.int r16)) (Exists.intro _ (And.intro (l_52 cr16) (?_))))))
          cases hf
          exact And.intro (fun z_ => absurd z_ (by decide)) (And.intro rfl rfl)
        · rw [if_neg hc17] at hf
          refine hG.1 1 38 kb_142_38 _ _ _ rfl ?_
          cases hf
          exact And.intro (fun z_ => absurd z_ (by decide)) (And.intro rfl rfl)
def f_143_26 (N : Nat) (h : pb_HP) (v0 : Nat) (v2 : Int32) (v3 : Nat) : Option (Int32 × pb_HP) :=
  if pb_is h v0 10 then ((pb_R h v0 6).bind fun q7 => (if pb_is h q7 2 then ((f_50 N h q7 v3).bind fun h10 => (if ¬ v2 = 0 then (if pb_is h10 v0 10 then ((pb_R h10 v0 6).bind fun q12 => (if pb_is h10 q12 2 then ((f_54 N h10 q12 (v2 - 10)).bind fun r14 => (some ((r14, h10)))) else none)) else none) else (if pb_is h10 v0 10 then ((pb_R h10 v0 6).bind fun q16 => (if pb_is h10 q16 2 then ((f_53 N h10 q16).bind fun r18 => (some ((r18, h10)))) else none)) else none))) else none)) else none
/-- PointedBench.best -/
def f_143 (N : Nat) (h : pb_HP) (v0 : Nat) (v1 : Int32) (v2 : Int32) : Option (Int32 × pb_HP) :=
  if pb_is h v0 10 then ((pb_R h v0 0).bind fun q2 => (if pb_is h q2 7 then ((f_105 h q2 v1).bind fun r4 => (match r4 with | none => (some (((-2), h))) | some q5 => (if v2 = 0 then (f_143_26 N h v0 v2 q5) else (if v2 < 10 then (if pb_is h q5 0 then ((f_13 N h q5 v2).bind fun r21 => (some ((r21, h)))) else none) else (f_143_26 N h v0 v2 q5))))) else none)) else none
set_option maxRecDepth 4000 in
theorem l_143 {xs : List Int32} {d : Nat} {N : Nat} {h : pb_HP} {v0 : Nat} {v1 : Int32} {v2 : Int32} {r : Int32} {hE : pb_HP} (hf : f_143 N h v0 v1 v2 = some ((r, hE))) : pb_AR xs (d + 4) 143 h [.ref v0, .int v1, .int v2] (some (.int r)) hE := by
  intro G hG
  have hc_ : pb_CODE 143 = kc_143 := rfl
  rw [hc_] at hG
  have hj_26 : ∀ (h : pb_HP) (v0 : Nat) (v2 : Int32) (v3 : Nat), f_143_26 N h v0 v2 v3 = some ((r, hE)) → G 26 [(0, .ref v0), (2, .int v2), (3, .ref v3)] [] h := by
    intro h v0 v2 v3 hf
    unfold f_143_26 at hf
    refine hG.1 2 26 kb_143_26 _ _ _ rfl ?_
    obtain ⟨hg6, hf⟩ := pb_gd hf
    obtain ⟨q7, eq7, hf⟩ := Option.bind_eq_some_iff.mp hf
    obtain ⟨hg8, hf⟩ := pb_gd hf
    refine And.intro hg6 (Exists.intro q7 (And.intro eq7 (?_)))
    obtain ⟨h10, cr9, hf⟩ := Option.bind_eq_some_iff.mp hf
    refine And.intro hg8 (And.intro (Nat.le_of_ble_eq_true rfl) (And.intro (Nat.le_of_ble_eq_true rfl) (Exists.intro none (Exists.intro _ (And.intro (l_50 cr9) (?_))))))
    refine And.intro (fun (hc19 : ¬ v2 = 0) => ?_) (fun (hc19 : ¬ (¬ v2 = 0)) => ?_)
    · rw [if_pos hc19] at hf
      refine hG.1 3 48 kb_143_48 _ _ _ rfl ?_
      obtain ⟨hg11, hf⟩ := pb_gd hf
      obtain ⟨q12, eq12, hf⟩ := Option.bind_eq_some_iff.mp hf
      obtain ⟨hg13, hf⟩ := pb_gd hf
      refine And.intro hg11 (Exists.intro q12 (And.intro eq12 (?_)))
      obtain ⟨r14, cr14, hf⟩ := Option.bind_eq_some_iff.mp hf
      refine And.intro hg13 (And.intro (Nat.le_of_ble_eq_true rfl) (And.intro (Nat.le_of_ble_eq_true rfl) (Exists.intro (some (.int r14)) (Exists.intro _ (And.intro (l_54 cr14) (?_))))))
      refine hG.1 4 59 kb_143_59 _ _ _ rfl ?_
      cases hf
      exact And.intro (fun z_ => absurd z_ (by decide)) (And.intro rfl rfl)
    · rw [if_neg hc19] at hf
      obtain ⟨hg15, hf⟩ := pb_gd hf
      obtain ⟨q16, eq16, hf⟩ := Option.bind_eq_some_iff.mp hf
      obtain ⟨hg17, hf⟩ := pb_gd hf
      refine And.intro hg15 (Exists.intro q16 (And.intro eq16 (?_)))
      obtain ⟨r18, cr18, hf⟩ := Option.bind_eq_some_iff.mp hf
      refine And.intro hg17 (And.intro (Nat.le_of_ble_eq_true rfl) (And.intro (Nat.le_of_ble_eq_true rfl) (Exists.intro (some (.int r18)) (Exists.intro _ (And.intro (l_53 cr18) (?_))))))
      refine hG.1 4 59 kb_143_59 _ _ _ rfl ?_
      cases hf
      exact And.intro (fun z_ => absurd z_ (by decide)) (And.intro rfl rfl)
  unfold f_143 at hf
  refine hG.1 0 0 kb_143_0 _ _ _ rfl ?_
  obtain ⟨hg1, hf⟩ := pb_gd hf
  obtain ⟨q2, eq2, hf⟩ := Option.bind_eq_some_iff.mp hf
  obtain ⟨hg3, hf⟩ := pb_gd hf
  refine And.intro hg1 (Exists.intro q2 (And.intro eq2 (?_)))
  obtain ⟨r4, cr4, hf⟩ := Option.bind_eq_some_iff.mp hf
  refine And.intro hg3 (And.intro (Nat.le_of_ble_eq_true rfl) (And.intro (Nat.le_of_ble_eq_true rfl) (Exists.intro (some (pb_rv r4)) (Exists.intro _ (And.intro (l_105 cr4) (?_))))))
  cases r4 with
  | none =>
    try dsimp only at hf
    cases hf
    exact And.intro (fun z_ => absurd z_ (by decide)) (And.intro rfl rfl)
  | some q5 =>
    try dsimp only at hf
    refine hG.1 1 16 kb_143_16 _ _ _ rfl ?_
    refine And.intro (fun (hc23 : v2 = 0) => ?_) (fun (hc23 : ¬ (v2 = 0)) => ?_)
    · rw [if_pos hc23] at hf
      refine hG.2 26 _ [0, 2, 3] _ _ _ rfl ?_
      exact hj_26 _ _ _ _ hf
    · rw [if_neg hc23] at hf
      refine And.intro (fun (hc22 : v2 < 10) => ?_) (fun (hc22 : ¬ (v2 < 10)) => ?_)
      · rw [if_pos hc22] at hf
        refine hG.1 5 60 kb_143_60 _ _ _ rfl ?_
        obtain ⟨hg20, hf⟩ := pb_gd hf
        obtain ⟨r21, cr21, hf⟩ := Option.bind_eq_some_iff.mp hf
        refine And.intro hg20 (And.intro (Nat.le_of_ble_eq_true rfl) (And.intro (Nat.le_of_ble_eq_true rfl) (Exists.intro (some (.int r21)) (Exists.intro _ (And.intro (l_13 cr21) (?_))))))
        cases hf
        exact And.intro (fun z_ => absurd z_ (by decide)) (And.intro rfl rfl)
      · rw [if_neg hc22] at hf
        refine hG.2 26 _ [0, 2, 3] _ _ _ rfl ?_
        exact hj_26 _ _ _ _ hf
/-- PointedBench.benches -/
def f_144 (N : Nat) (h : pb_HP) (v0 : Nat) (v1 : Int32) (v2 : Int32) : Option (Int32 × pb_HP) :=
  if pb_is h v0 10 then ((pb_R h v0 0).bind fun q2 => (if pb_is h q2 7 then ((f_105 h q2 v1).bind fun r4 => (match r4 with | none => (some (((-1), h))) | some q5 => (if pb_is h q5 0 then ((f_3 h q5 v2).bind fun r7 => (if ¬ r7 = 0 then ((pb_R h v0 4).bind fun q8 => (if pb_is h q8 5 then ((f_76 N h q8 q5).bind fun h11 => (if pb_is h11 v0 10 then ((pb_R h11 v0 4).bind fun q13 => (if pb_is h11 q13 5 then ((f_81 N h11 q13 v2).bind fun r15 => (some ((r15, h11)))) else none)) else none)) else none)) else (some (((-1), h))))) else none))) else none)) else none
set_option maxRecDepth 4000 in
theorem l_144 {xs : List Int32} {d : Nat} {N : Nat} {h : pb_HP} {v0 : Nat} {v1 : Int32} {v2 : Int32} {r : Int32} {hE : pb_HP} (hf : f_144 N h v0 v1 v2 = some ((r, hE))) : pb_AR xs (d + 4) 144 h [.ref v0, .int v1, .int v2] (some (.int r)) hE := by
  intro G hG
  have hc_ : pb_CODE 144 = kc_144 := rfl
  rw [hc_] at hG
  unfold f_144 at hf
  refine hG.1 0 0 kb_144_0 _ _ _ rfl ?_
  obtain ⟨hg1, hf⟩ := pb_gd hf
  obtain ⟨q2, eq2, hf⟩ := Option.bind_eq_some_iff.mp hf
  obtain ⟨hg3, hf⟩ := pb_gd hf
  refine And.intro hg1 (Exists.intro q2 (And.intro eq2 (?_)))
  obtain ⟨r4, cr4, hf⟩ := Option.bind_eq_some_iff.mp hf
  refine And.intro hg3 (And.intro (Nat.le_of_ble_eq_true rfl) (And.intro (Nat.le_of_ble_eq_true rfl) (Exists.intro (some (pb_rv r4)) (Exists.intro _ (And.intro (l_105 cr4) (?_))))))
  cases r4 with
  | none =>
    try dsimp only at hf
    refine hG.1 1 21 kb_144_21 _ _ _ rfl ?_
    cases hf
    exact And.intro (fun z_ => absurd z_ (by decide)) (And.intro rfl rfl)
  | some q5 =>
    try dsimp only at hf
    obtain ⟨hg6, hf⟩ := pb_gd hf
    obtain ⟨r7, cr7, hf⟩ := Option.bind_eq_some_iff.mp hf
    refine And.intro hg6 (And.intro (Nat.le_of_ble_eq_true rfl) (And.intro (Nat.le_of_ble_eq_true rfl) (Exists.intro (some (.int r7)) (Exists.intro _ (And.intro (l_3 cr7) (?_))))))
    refine And.intro (fun (hc16 : ¬ r7 = 0) => ?_) (fun (hc16 : ¬ (¬ r7 = 0)) => ?_)
    · rw [if_pos hc16] at hf
      refine hG.1 2 23 kb_144_23 _ _ _ rfl ?_
      obtain ⟨q8, eq8, hf⟩ := Option.bind_eq_some_iff.mp hf
      obtain ⟨hg9, hf⟩ := pb_gd hf
      refine And.intro hg1 (Exists.intro q8 (And.intro eq8 (?_)))
      obtain ⟨h11, cr10, hf⟩ := Option.bind_eq_some_iff.mp hf
      refine And.intro hg9 (And.intro (Nat.le_of_ble_eq_true rfl) (And.intro (Nat.le_of_ble_eq_true rfl) (Exists.intro none (Exists.intro _ (And.intro (l_76 cr10) (?_))))))
      obtain ⟨hg12, hf⟩ := pb_gd hf
      obtain ⟨q13, eq13, hf⟩ := Option.bind_eq_some_iff.mp hf
      obtain ⟨hg14, hf⟩ := pb_gd hf
      refine And.intro hg12 (Exists.intro q13 (And.intro eq13 (?_)))
      obtain ⟨r15, cr15, hf⟩ := Option.bind_eq_some_iff.mp hf
      refine And.intro hg14 (And.intro (Nat.le_of_ble_eq_true rfl) (And.intro (Nat.le_of_ble_eq_true rfl) (Exists.intro (some (.int r15)) (Exists.intro _ (And.intro (l_81 cr15) (?_))))))
      cases hf
      exact And.intro (fun z_ => absurd z_ (by decide)) (And.intro rfl rfl)
    · rw [if_neg hc16] at hf
      refine hG.1 1 21 kb_144_21 _ _ _ rfl ?_
      cases hf
      exact And.intro (fun z_ => absurd z_ (by decide)) (And.intro rfl rfl)
/-- PointedBench.gang -/
def f_146 (N : Nat) (h : pb_HP) (v0 : Nat) (v1 : Int32) (v2 : Int32) : Option (Int32) :=
  if pb_is h v0 10 then ((pb_R h v0 0).bind fun q2 => (if pb_is h q2 7 then ((f_105 h q2 v1).bind fun r4 => (match r4 with | none => (some ((-1))) | some q5 => (if pb_is h q5 0 then ((f_20 N h q5).bind fun r7 => ((f_164 r7 v2).bind fun r8 => (some r8))) else none))) else none)) else none
set_option maxRecDepth 4000 in
theorem l_146 {xs : List Int32} {d : Nat} {N : Nat} {h : pb_HP} {v0 : Nat} {v1 : Int32} {v2 : Int32} {r : Int32} (hf : f_146 N h v0 v1 v2 = some r) : pb_AR xs (d + 4) 146 h [.ref v0, .int v1, .int v2] (some (.int r)) h := by
  intro G hG
  have hc_ : pb_CODE 146 = kc_146 := rfl
  rw [hc_] at hG
  unfold f_146 at hf
  refine hG.1 0 0 kb_146_0 _ _ _ rfl ?_
  obtain ⟨hg1, hf⟩ := pb_gd hf
  obtain ⟨q2, eq2, hf⟩ := Option.bind_eq_some_iff.mp hf
  obtain ⟨hg3, hf⟩ := pb_gd hf
  refine And.intro hg1 (Exists.intro q2 (And.intro eq2 (?_)))
  obtain ⟨r4, cr4, hf⟩ := Option.bind_eq_some_iff.mp hf
  refine And.intro hg3 (And.intro (Nat.le_of_ble_eq_true rfl) (And.intro (Nat.le_of_ble_eq_true rfl) (Exists.intro (some (pb_rv r4)) (Exists.intro _ (And.intro (l_105 cr4) (?_))))))
  cases r4 with
  | none =>
    try dsimp only at hf
    cases hf
    exact And.intro (fun z_ => absurd z_ (by decide)) (And.intro rfl rfl)
  | some q5 =>
    try dsimp only at hf
    refine hG.1 1 15 kb_146_15 _ _ _ rfl ?_
    obtain ⟨hg6, hf⟩ := pb_gd hf
    obtain ⟨r7, cr7, hf⟩ := Option.bind_eq_some_iff.mp hf
    refine And.intro hg6 (And.intro (Nat.le_of_ble_eq_true rfl) (And.intro (Nat.le_of_ble_eq_true rfl) (Exists.intro (some (.int r7)) (Exists.intro _ (And.intro (l_20 cr7) (?_))))))
    obtain ⟨r8, cr8, hf⟩ := Option.bind_eq_some_iff.mp hf
    refine And.intro (Nat.le_of_ble_eq_true rfl) (And.intro (Nat.le_of_ble_eq_true rfl) (And.intro (Nat.le_of_ble_eq_true rfl) (Exists.intro (some (.int r8)) (Exists.intro _ (And.intro (l_164 cr8) (?_))))))
    cases hf
    exact And.intro (fun z_ => absurd z_ (by decide)) (And.intro rfl rfl)
/-- PointedBench.agenda -/
def f_152 (N : Nat) (h : pb_HP) (v0 : Nat) (v1 : Int32) (v2 : Int32) (v3 : Int32) : Option (Int32 × pb_HP) :=
  if pb_is h v0 10 then ((pb_R h v0 0).bind fun q2 => (if pb_is h q2 7 then ((f_105 h q2 v1).bind fun r4 => (match r4 with | none => (some (((-1), h))) | some q5 => (if pb_is h q5 0 then ((f_3 h q5 v2).bind fun r7 => (if r7 = 0 then (some (((-1), h))) else ((f_3 h q5 v3).bind fun r8 => (if ¬ r8 = 0 then ((pb_R h v0 6).bind fun q9 => (if pb_is h q9 2 then ((f_50 N h q9 q5).bind fun h12 => (if pb_is h12 v0 10 then ((pb_R h12 v0 6).bind fun q14 => (if pb_is h12 q14 2 then ((f_55 N h12 q14 v2).bind fun (r16, h17) => (if r16 = 0 then (some (((-1), h17))) else (if pb_is h17 v0 10 then ((pb_R h17 v0 6).bind fun q19 => (if pb_is h17 q19 2 then ((pb_R h17 q19 0).bind fun q21 => (if pb_ar h17 q21 12 v3 then (some ((pb_I h17 q21 v3.toNatClampNeg, h17))) else none)) else none)) else none))) else none)) else none)) else none)) else (some (((-1), h))))))) else none))) else none)) else none
set_option maxRecDepth 4000 in
theorem l_152 {xs : List Int32} {d : Nat} {N : Nat} {h : pb_HP} {v0 : Nat} {v1 : Int32} {v2 : Int32} {v3 : Int32} {r : Int32} {hE : pb_HP} (hf : f_152 N h v0 v1 v2 v3 = some ((r, hE))) : pb_AR xs (d + 4) 152 h [.ref v0, .int v1, .int v2, .int v3] (some (.int r)) hE := by
  intro G hG
  have hc_ : pb_CODE 152 = kc_152 := rfl
  rw [hc_] at hG
  unfold f_152 at hf
  refine hG.1 0 0 kb_152_0 _ _ _ rfl ?_
  obtain ⟨hg1, hf⟩ := pb_gd hf
  obtain ⟨q2, eq2, hf⟩ := Option.bind_eq_some_iff.mp hf
  obtain ⟨hg3, hf⟩ := pb_gd hf
  refine And.intro hg1 (Exists.intro q2 (And.intro eq2 (?_)))
  obtain ⟨r4, cr4, hf⟩ := Option.bind_eq_some_iff.mp hf
  refine And.intro hg3 (And.intro (Nat.le_of_ble_eq_true rfl) (And.intro (Nat.le_of_ble_eq_true rfl) (Exists.intro (some (pb_rv r4)) (Exists.intro _ (And.intro (l_105 cr4) (?_))))))
  cases r4 with
  | none =>
    try dsimp only at hf
    refine hG.1 1 33 kb_152_33 _ _ _ rfl ?_
    cases hf
    exact And.intro (fun z_ => absurd z_ (by decide)) (And.intro rfl rfl)
  | some q5 =>
    try dsimp only at hf
    obtain ⟨hg6, hf⟩ := pb_gd hf
    obtain ⟨r7, cr7, hf⟩ := Option.bind_eq_some_iff.mp hf
    refine And.intro hg6 (And.intro (Nat.le_of_ble_eq_true rfl) (And.intro (Nat.le_of_ble_eq_true rfl) (Exists.intro (some (.int r7)) (Exists.intro _ (And.intro (l_3 cr7) (?_))))))
    refine And.intro (fun (hc25 : r7 = 0) => ?_) (fun (hc25 : ¬ (r7 = 0)) => ?_)
    · rw [if_pos hc25] at hf
      refine hG.1 1 33 kb_152_33 _ _ _ rfl ?_
      cases hf
      exact And.intro (fun z_ => absurd z_ (by decide)) (And.intro rfl rfl)
    · rw [if_neg hc25] at hf
      obtain ⟨r8, cr8, hf⟩ := Option.bind_eq_some_iff.mp hf
      refine And.intro hg6 (And.intro (Nat.le_of_ble_eq_true rfl) (And.intro (Nat.le_of_ble_eq_true rfl) (Exists.intro (some (.int r8)) (Exists.intro _ (And.intro (l_3 cr8) (?_))))))
      refine And.intro (fun (hc24 : ¬ r8 = 0) => ?_) (fun (hc24 : ¬ (¬ r8 = 0)) => ?_)
      · rw [if_pos hc24] at hf
        refine hG.1 2 35 kb_152_35 _ _ _ rfl ?_
        obtain ⟨q9, eq9, hf⟩ := Option.bind_eq_some_iff.mp hf
        obtain ⟨hg10, hf⟩ := pb_gd hf
        refine And.intro hg1 (Exists.intro q9 (And.intro eq9 (?_)))
        obtain ⟨h12, cr11, hf⟩ := Option.bind_eq_some_iff.mp hf
        refine And.intro hg10 (And.intro (Nat.le_of_ble_eq_true rfl) (And.intro (Nat.le_of_ble_eq_true rfl) (Exists.intro none (Exists.intro _ (And.intro (l_50 cr11) (?_))))))
        obtain ⟨hg13, hf⟩ := pb_gd hf
        obtain ⟨q14, eq14, hf⟩ := Option.bind_eq_some_iff.mp hf
        obtain ⟨hg15, hf⟩ := pb_gd hf
        refine And.intro hg13 (Exists.intro q14 (And.intro eq14 (?_)))
        obtain ⟨⟨r16, h17⟩, cr16, hf⟩ := Option.bind_eq_some_iff.mp hf
        try dsimp only at hf
        refine And.intro hg15 (And.intro (Nat.le_of_ble_eq_true rfl) (And.intro (Nat.le_of_ble_eq_true rfl) (Exists.intro (some (.int r16)) (Exists.intro _ (And.intro (l_55 cr16) (?_))))))
        refine And.intro (fun (hc23 : r16 = 0) => ?_) (fun (hc23 : ¬ (r16 = 0)) => ?_)
        · rw [if_pos hc23] at hf
          refine hG.1 3 67 kb_152_67 _ _ _ rfl ?_
          refine hG.1 4 68 kb_152_68 _ _ _ rfl ?_
          cases hf
          exact And.intro (fun z_ => absurd z_ (by decide)) (And.intro rfl rfl)
        · rw [if_neg hc23] at hf
          obtain ⟨hg18, hf⟩ := pb_gd hf
          obtain ⟨q19, eq19, hf⟩ := Option.bind_eq_some_iff.mp hf
          obtain ⟨hg20, hf⟩ := pb_gd hf
          obtain ⟨q21, eq21, hf⟩ := Option.bind_eq_some_iff.mp hf
          obtain ⟨hg22, hf⟩ := pb_gd hf
          refine And.intro hg18 (Exists.intro q19 (And.intro eq19 (And.intro hg20 (Exists.intro q21 (And.intro eq21 (And.intro hg22 (?_)))))))
          refine hG.1 4 68 kb_152_68 _ _ _ rfl ?_
          cases hf
          exact And.intro (fun z_ => absurd z_ (by decide)) (And.intro rfl rfl)
      · rw [if_neg hc24] at hf
        refine hG.1 1 33 kb_152_33 _ _ _ rfl ?_
        cases hf
        exact And.intro (fun z_ => absurd z_ (by decide)) (And.intro rfl rfl)
/-- PointedBench.lies -/
def f_153 (N : Nat) (h : pb_HP) (v0 : Nat) (v1 : Int32) (v2 : Int32) : Option (Int32 × pb_HP) :=
  if pb_is h v0 10 then ((pb_R h v0 0).bind fun q2 => (if pb_is h q2 7 then ((f_105 h q2 v1).bind fun r4 => (match r4 with | none => (some (((-1), h))) | some q5 => (if pb_is h q5 0 then ((f_7 h q5 v2).bind fun r7 => (if ¬ r7 = 0 then ((pb_R h v0 4).bind fun q8 => (if pb_is h q8 5 then ((f_76 N h q8 q5).bind fun h11 => (if pb_is h11 v0 10 then ((pb_R h11 v0 4).bind fun q13 => (if pb_is h11 q13 5 then ((f_83 N h11 q13 q5 v2).bind fun (r15, h16) => (some ((r15, h16)))) else none)) else none)) else none)) else (some (((-1), h))))) else none))) else none)) else none
set_option maxRecDepth 4000 in
theorem l_153 {xs : List Int32} {d : Nat} {N : Nat} {h : pb_HP} {v0 : Nat} {v1 : Int32} {v2 : Int32} {r : Int32} {hE : pb_HP} (hf : f_153 N h v0 v1 v2 = some ((r, hE))) : pb_AR xs (d + 4) 153 h [.ref v0, .int v1, .int v2] (some (.int r)) hE := by
  intro G hG
  have hc_ : pb_CODE 153 = kc_153 := rfl
  rw [hc_] at hG
  unfold f_153 at hf
  refine hG.1 0 0 kb_153_0 _ _ _ rfl ?_
  obtain ⟨hg1, hf⟩ := pb_gd hf
  obtain ⟨q2, eq2, hf⟩ := Option.bind_eq_some_iff.mp hf
  obtain ⟨hg3, hf⟩ := pb_gd hf
  refine And.intro hg1 (Exists.intro q2 (And.intro eq2 (?_)))
  obtain ⟨r4, cr4, hf⟩ := Option.bind_eq_some_iff.mp hf
  refine And.intro hg3 (And.intro (Nat.le_of_ble_eq_true rfl) (And.intro (Nat.le_of_ble_eq_true rfl) (Exists.intro (some (pb_rv r4)) (Exists.intro _ (And.intro (l_105 cr4) (?_))))))
  cases r4 with
  | none =>
    try dsimp only at hf
    refine hG.1 1 21 kb_153_21 _ _ _ rfl ?_
    cases hf
    exact And.intro (fun z_ => absurd z_ (by decide)) (And.intro rfl rfl)
  | some q5 =>
    try dsimp only at hf
    obtain ⟨hg6, hf⟩ := pb_gd hf
    obtain ⟨r7, cr7, hf⟩ := Option.bind_eq_some_iff.mp hf
    refine And.intro hg6 (And.intro (Nat.le_of_ble_eq_true rfl) (And.intro (Nat.le_of_ble_eq_true rfl) (Exists.intro (some (.int r7)) (Exists.intro _ (And.intro (l_7 cr7) (?_))))))
    refine And.intro (fun (hc17 : ¬ r7 = 0) => ?_) (fun (hc17 : ¬ (¬ r7 = 0)) => ?_)
    · rw [if_pos hc17] at hf
      refine hG.1 2 23 kb_153_23 _ _ _ rfl ?_
      obtain ⟨q8, eq8, hf⟩ := Option.bind_eq_some_iff.mp hf
      obtain ⟨hg9, hf⟩ := pb_gd hf
      refine And.intro hg1 (Exists.intro q8 (And.intro eq8 (?_)))
      obtain ⟨h11, cr10, hf⟩ := Option.bind_eq_some_iff.mp hf
      refine And.intro hg9 (And.intro (Nat.le_of_ble_eq_true rfl) (And.intro (Nat.le_of_ble_eq_true rfl) (Exists.intro none (Exists.intro _ (And.intro (l_76 cr10) (?_))))))
      obtain ⟨hg12, hf⟩ := pb_gd hf
      obtain ⟨q13, eq13, hf⟩ := Option.bind_eq_some_iff.mp hf
      obtain ⟨hg14, hf⟩ := pb_gd hf
      refine And.intro hg12 (Exists.intro q13 (And.intro eq13 (?_)))
      obtain ⟨⟨r15, h16⟩, cr15, hf⟩ := Option.bind_eq_some_iff.mp hf
      try dsimp only at hf
      refine And.intro hg14 (And.intro (Nat.le_of_ble_eq_true rfl) (And.intro (Nat.le_of_ble_eq_true rfl) (Exists.intro (some (.int r15)) (Exists.intro _ (And.intro (l_83 cr15) (?_))))))
      cases hf
      exact And.intro (fun z_ => absurd z_ (by decide)) (And.intro rfl rfl)
    · rw [if_neg hc17] at hf
      refine hG.1 1 21 kb_153_21 _ _ _ rfl ?_
      cases hf
      exact And.intro (fun z_ => absurd z_ (by decide)) (And.intro rfl rfl)
/-- PointedBench.bun -/
def f_154 (N : Nat) (h : pb_HP) (v0 : Nat) (v1 : Int32) (v2 : Int32) (v3 : Int32) (v4 : Int32) : Option (Int32) :=
  if pb_is h v0 10 then ((pb_R h v0 0).bind fun q2 => (if pb_is h q2 7 then ((f_105 h q2 v1).bind fun r4 => (match r4 with | none => (some ((-1))) | some q5 => (if pb_is h q5 0 then ((f_4 h q5 v2).bind fun r7 => (if r7 = 0 then (some ((-1))) else ((f_3 h q5 v3).bind fun r8 => (if ¬ r8 = 0 then ((f_25 N h q5 v2 v3 v4).bind fun r9 => (some r9)) else (some ((-1))))))) else none))) else none)) else none
set_option maxRecDepth 4000 in
theorem l_154 {xs : List Int32} {d : Nat} {N : Nat} {h : pb_HP} {v0 : Nat} {v1 : Int32} {v2 : Int32} {v3 : Int32} {v4 : Int32} {r : Int32} (hf : f_154 N h v0 v1 v2 v3 v4 = some r) : pb_AR xs (d + 4) 154 h [.ref v0, .int v1, .int v2, .int v3, .int v4] (some (.int r)) h := by
  intro G hG
  have hc_ : pb_CODE 154 = kc_154 := rfl
  rw [hc_] at hG
  unfold f_154 at hf
  refine hG.1 0 0 kb_154_0 _ _ _ rfl ?_
  obtain ⟨hg1, hf⟩ := pb_gd hf
  obtain ⟨q2, eq2, hf⟩ := Option.bind_eq_some_iff.mp hf
  obtain ⟨hg3, hf⟩ := pb_gd hf
  refine And.intro hg1 (Exists.intro q2 (And.intro eq2 (?_)))
  obtain ⟨r4, cr4, hf⟩ := Option.bind_eq_some_iff.mp hf
  refine And.intro hg3 (And.intro (Nat.le_of_ble_eq_true rfl) (And.intro (Nat.le_of_ble_eq_true rfl) (Exists.intro (some (pb_rv r4)) (Exists.intro _ (And.intro (l_105 cr4) (?_))))))
  cases r4 with
  | none =>
    try dsimp only at hf
    refine hG.1 1 33 kb_154_33 _ _ _ rfl ?_
    cases hf
    exact And.intro (fun z_ => absurd z_ (by decide)) (And.intro rfl rfl)
  | some q5 =>
    try dsimp only at hf
    obtain ⟨hg6, hf⟩ := pb_gd hf
    obtain ⟨r7, cr7, hf⟩ := Option.bind_eq_some_iff.mp hf
    refine And.intro hg6 (And.intro (Nat.le_of_ble_eq_true rfl) (And.intro (Nat.le_of_ble_eq_true rfl) (Exists.intro (some (.int r7)) (Exists.intro _ (And.intro (l_4 cr7) (?_))))))
    refine And.intro (fun (hc11 : r7 = 0) => ?_) (fun (hc11 : ¬ (r7 = 0)) => ?_)
    · rw [if_pos hc11] at hf
      refine hG.1 1 33 kb_154_33 _ _ _ rfl ?_
      cases hf
      exact And.intro (fun z_ => absurd z_ (by decide)) (And.intro rfl rfl)
    · rw [if_neg hc11] at hf
      obtain ⟨r8, cr8, hf⟩ := Option.bind_eq_some_iff.mp hf
      refine And.intro hg6 (And.intro (Nat.le_of_ble_eq_true rfl) (And.intro (Nat.le_of_ble_eq_true rfl) (Exists.intro (some (.int r8)) (Exists.intro _ (And.intro (l_3 cr8) (?_))))))
      refine And.intro (fun (hc10 : ¬ r8 = 0) => ?_) (fun (hc10 : ¬ (¬ r8 = 0)) => ?_)
      · rw [if_pos hc10] at hf
        refine hG.1 2 35 kb_154_35 _ _ _ rfl ?_
        obtain ⟨r9, cr9, hf⟩ := Option.bind_eq_some_iff.mp hf
        refine And.intro hg6 (And.intro (Nat.le_of_ble_eq_true rfl) (And.intro (Nat.le_of_ble_eq_true rfl) (Exists.intro (some (.int r9)) (Exists.intro _ (And.intro (l_25 cr9) (?_))))))
        cases hf
        exact And.intro (fun z_ => absurd z_ (by decide)) (And.intro rfl rfl)
      · rw [if_neg hc10] at hf
        refine hG.1 1 33 kb_154_33 _ _ _ rfl ?_
        cases hf
        exact And.intro (fun z_ => absurd z_ (by decide)) (And.intro rfl rfl)
/-- PointedBench.fewest -/
def f_157 (N : Nat) (h : pb_HP) (v0 : Nat) (v1 : Int32) (v2 : Int32) (v3 : Int32) : Option (Int32 × pb_HP) :=
  if pb_is h v0 10 then ((pb_R h v0 0).bind fun q2 => (if pb_is h q2 7 then ((f_105 h q2 v1).bind fun r4 => (match r4 with | none => (some (((-1), h))) | some q5 => (if pb_is h q5 0 then ((f_3 h q5 v2).bind fun r7 => (if ¬ r7 = 0 then ((pb_R h v0 4).bind fun q8 => (if pb_is h q8 5 then ((f_76 N h q8 q5).bind fun h11 => (if pb_is h11 v0 10 then ((pb_R h11 v0 4).bind fun q13 => (if pb_is h11 q13 5 then ((f_80 N h11 q13 v2).bind fun r15 => ((f_164 r15 v3).bind fun r16 => (some ((r16, h11))))) else none)) else none)) else none)) else (some (((-1), h))))) else none))) else none)) else none
set_option maxRecDepth 4000 in
theorem l_157 {xs : List Int32} {d : Nat} {N : Nat} {h : pb_HP} {v0 : Nat} {v1 : Int32} {v2 : Int32} {v3 : Int32} {r : Int32} {hE : pb_HP} (hf : f_157 N h v0 v1 v2 v3 = some ((r, hE))) : pb_AR xs (d + 4) 157 h [.ref v0, .int v1, .int v2, .int v3] (some (.int r)) hE := by
  intro G hG
  have hc_ : pb_CODE 157 = kc_157 := rfl
  rw [hc_] at hG
  unfold f_157 at hf
  refine hG.1 0 0 kb_157_0 _ _ _ rfl ?_
  obtain ⟨hg1, hf⟩ := pb_gd hf
  obtain ⟨q2, eq2, hf⟩ := Option.bind_eq_some_iff.mp hf
  obtain ⟨hg3, hf⟩ := pb_gd hf
  refine And.intro hg1 (Exists.intro q2 (And.intro eq2 (?_)))
  obtain ⟨r4, cr4, hf⟩ := Option.bind_eq_some_iff.mp hf
  refine And.intro hg3 (And.intro (Nat.le_of_ble_eq_true rfl) (And.intro (Nat.le_of_ble_eq_true rfl) (Exists.intro (some (pb_rv r4)) (Exists.intro _ (And.intro (l_105 cr4) (?_))))))
  cases r4 with
  | none =>
    try dsimp only at hf
    refine hG.1 1 24 kb_157_24 _ _ _ rfl ?_
    cases hf
    exact And.intro (fun z_ => absurd z_ (by decide)) (And.intro rfl rfl)
  | some q5 =>
    try dsimp only at hf
    obtain ⟨hg6, hf⟩ := pb_gd hf
    obtain ⟨r7, cr7, hf⟩ := Option.bind_eq_some_iff.mp hf
    refine And.intro hg6 (And.intro (Nat.le_of_ble_eq_true rfl) (And.intro (Nat.le_of_ble_eq_true rfl) (Exists.intro (some (.int r7)) (Exists.intro _ (And.intro (l_3 cr7) (?_))))))
    refine And.intro (fun (hc17 : ¬ r7 = 0) => ?_) (fun (hc17 : ¬ (¬ r7 = 0)) => ?_)
    · rw [if_pos hc17] at hf
      refine hG.1 2 26 kb_157_26 _ _ _ rfl ?_
      obtain ⟨q8, eq8, hf⟩ := Option.bind_eq_some_iff.mp hf
      obtain ⟨hg9, hf⟩ := pb_gd hf
      refine And.intro hg1 (Exists.intro q8 (And.intro eq8 (?_)))
      obtain ⟨h11, cr10, hf⟩ := Option.bind_eq_some_iff.mp hf
      refine And.intro hg9 (And.intro (Nat.le_of_ble_eq_true rfl) (And.intro (Nat.le_of_ble_eq_true rfl) (Exists.intro none (Exists.intro _ (And.intro (l_76 cr10) (?_))))))
      obtain ⟨hg12, hf⟩ := pb_gd hf
      obtain ⟨q13, eq13, hf⟩ := Option.bind_eq_some_iff.mp hf
      obtain ⟨hg14, hf⟩ := pb_gd hf
      refine And.intro hg12 (Exists.intro q13 (And.intro eq13 (?_)))
      obtain ⟨r15, cr15, hf⟩ := Option.bind_eq_some_iff.mp hf
      refine And.intro hg14 (And.intro (Nat.le_of_ble_eq_true rfl) (And.intro (Nat.le_of_ble_eq_true rfl) (Exists.intro (some (.int r15)) (Exists.intro _ (And.intro (l_80 cr15) (?_))))))
      obtain ⟨r16, cr16, hf⟩ := Option.bind_eq_some_iff.mp hf
      refine And.intro (Nat.le_of_ble_eq_true rfl) (And.intro (Nat.le_of_ble_eq_true rfl) (And.intro (Nat.le_of_ble_eq_true rfl) (Exists.intro (some (.int r16)) (Exists.intro _ (And.intro (l_164 cr16) (?_))))))
      cases hf
      exact And.intro (fun z_ => absurd z_ (by decide)) (And.intro rfl rfl)
    · rw [if_neg hc17] at hf
      refine hG.1 1 24 kb_157_24 _ _ _ rfl ?_
      cases hf
      exact And.intro (fun z_ => absurd z_ (by decide)) (And.intro rfl rfl)
/-- PointedBenchModel.manLine -/
def f_185 (N : Nat) (h : pb_HP) (v0 : Nat) (v1 : Int32) : Option (Int32 × pb_HP) :=
  if pb_is h v0 11 then ((f_184 h v0 0 6 v1).bind fun h3 => (if pb_is h3 v0 11 then ((f_180 N h3 v0).bind fun h6 => (if pb_is h6 v0 11 then ((f_183 N h6 v0 0 0 9).bind fun (r8, h9) => (if ¬ r8 = 0 then (if pb_is h9 v0 11 then ((pb_R h9 v0 18).bind fun q11 => (if pb_ar h9 q11 12 0 then (if 6 ≤ (pb_I h9 q11 (0 : Int32).toNatClampNeg) then (some ((1, h9))) else ((pb_R h9 v0 19).bind fun q13 => (if pb_ar h9 q13 12 0 then (if pb_ar h9 q11 12 (2 + (pb_I h9 q11 (0 : Int32).toNatClampNeg)) then (pb_hb (pb_pI (pb_pI h9 q11 (2 + (pb_I h9 q11 (0 : Int32).toNatClampNeg)).toNatClampNeg (pb_I h9 q13 (0 : Int32).toNatClampNeg)) q11 (0 : Int32).toNatClampNeg ((pb_I (pb_pI h9 q11 (2 + (pb_I h9 q11 (0 : Int32).toNatClampNeg)).toNatClampNeg (pb_I h9 q13 (0 : Int32).toNatClampNeg)) q11 (0 : Int32).toNatClampNeg) + 1)) fun h16 => (some ((1, h16)))) else none) else none))) else none)) else none) else (some ((0, h9))))) else none)) else none)) else none
set_option maxRecDepth 4000 in
theorem l_185 {xs : List Int32} {d : Nat} {N : Nat} {h : pb_HP} {v0 : Nat} {v1 : Int32} {r : Int32} {hE : pb_HP} (hf : f_185 N h v0 v1 = some ((r, hE))) : pb_AR xs (d + 4) 185 h [.ref v0, .int v1] (some (.int r)) hE := by
  intro G hG
  have hc_ : pb_CODE 185 = kc_185 := rfl
  rw [hc_] at hG
  unfold f_185 at hf
  refine hG.1 0 0 kb_185_0 _ _ _ rfl ?_
  obtain ⟨hg1, hf⟩ := pb_gd hf
  obtain ⟨h3, cr2, hf⟩ := Option.bind_eq_some_iff.mp hf
  refine And.intro hg1 (And.intro (Nat.le_of_ble_eq_true rfl) (And.intro (Nat.le_of_ble_eq_true rfl) (Exists.intro none (Exists.intro _ (And.intro (l_184 cr2) (?_))))))
  obtain ⟨hg4, hf⟩ := pb_gd hf
  obtain ⟨h6, cr5, hf⟩ := Option.bind_eq_some_iff.mp hf
  refine And.intro hg4 (And.intro (Nat.le_of_ble_eq_true rfl) (And.intro (Nat.le_of_ble_eq_true rfl) (Exists.intro none (Exists.intro _ (And.intro (l_180 cr5) (?_))))))
  obtain ⟨hg7, hf⟩ := pb_gd hf
  obtain ⟨⟨r8, h9⟩, cr8, hf⟩ := Option.bind_eq_some_iff.mp hf
  try dsimp only at hf
  refine And.intro hg7 (And.intro (Nat.le_of_ble_eq_true rfl) (And.intro (Nat.le_of_ble_eq_true rfl) (Exists.intro (some (.int r8)) (Exists.intro _ (And.intro (l_183 cr8) (?_))))))
  refine And.intro (fun (hc24 : ¬ r8 = 0) => ?_) (fun (hc24 : ¬ (¬ r8 = 0)) => ?_)
  · rw [if_pos hc24] at hf
    refine hG.1 1 25 kb_185_25 _ _ _ rfl ?_
    obtain ⟨hg10, hf⟩ := pb_gd hf
    obtain ⟨q11, eq11, hf⟩ := Option.bind_eq_some_iff.mp hf
    obtain ⟨hg12, hf⟩ := pb_gd hf
    refine And.intro hg10 (Exists.intro q11 (And.intro eq11 (And.intro hg12 (?_))))
    refine And.intro (fun (hc23 : 6 ≤ (pb_I h9 q11 (0 : Int32).toNatClampNeg)) => ?_) (fun (hc23 : ¬ (6 ≤ (pb_I h9 q11 (0 : Int32).toNatClampNeg))) => ?_)
    · rw [if_pos hc23] at hf
      refine hG.1 2 62 kb_185_62 _ _ _ rfl ?_
      cases hf
      exact And.intro (fun _ => Or.inr rfl) (And.intro rfl rfl)
    · rw [if_neg hc23] at hf
      obtain ⟨q13, eq13, hf⟩ := Option.bind_eq_some_iff.mp hf
      obtain ⟨hg14, hf⟩ := pb_gd hf
      obtain ⟨hg15, hf⟩ := pb_gd hf
      refine And.intro hg10 (Exists.intro q11 (And.intro eq11 (And.intro hg10 (Exists.intro q13 (And.intro eq13 (And.intro hg14 (And.intro hg15 (And.intro hg10 (Exists.intro q11 (And.intro eq11 (And.intro hg12 (And.intro hg12 (?_)))))))))))))
      refine pb_hset (E := pb_pI (pb_pI h9 q11 (2 + (pb_I h9 q11 (0 : Int32).toNatClampNeg)).toNatClampNeg (pb_I h9 q13 (0 : Int32).toNatClampNeg)) q11 (0 : Int32).toNatClampNeg ((pb_I (pb_pI h9 q11 (2 + (pb_I h9 q11 (0 : Int32).toNatClampNeg)).toNatClampNeg (pb_I h9 q13 (0 : Int32).toNatClampNeg)) q11 (0 : Int32).toNatClampNeg) + 1)) rfl (fun h16 eh16 => ?_)
      have hf := pb_hbd hf eh16
      have hg17 : pb_is h16 v0 11 := pb_isx eh16 hg10
      have hg18 : pb_ar h16 q11 12 0 := pb_arx eh16 hg12
      have hg19 : pb_ar h16 q13 12 0 := pb_arx eh16 hg14
      have hg20 : pb_ar h16 q11 12 (2 + (pb_I h9 q11 (0 : Int32).toNatClampNeg)) := pb_arx eh16 hg15
      have eq21 : pb_R h16 v0 18 = some q11 := pb_Rx eh16 eq11
      have eq22 : pb_R h16 v0 19 = some q13 := pb_Rx eh16 eq13
      refine hG.1 2 62 kb_185_62 _ _ _ rfl ?_
      cases hf
      exact And.intro (fun _ => Or.inr rfl) (And.intro rfl rfl)
  · rw [if_neg hc24] at hf
    cases hf
    exact And.intro (fun _ => Or.inl rfl) (And.intro rfl rfl)
/-- PointedBenchModel.childLine -/
def f_186 (N : Nat) (h : pb_HP) (v0 : Nat) (v1 : Int32) : Option (Int32 × pb_HP) :=
  if pb_is h v0 11 then ((f_184 h v0 1 6 v1).bind fun h3 => (if pb_is h3 v0 11 then ((f_180 N h3 v0).bind fun h6 => (if pb_is h6 v0 11 then ((f_183 N h6 v0 0 0 20).bind fun (r8, h9) => (if r8 = 0 then (some ((0, h9))) else (if pb_is h9 v0 11 then ((f_183 N h9 v0 1 0 30).bind fun (r11, h12) => (if ¬ r11 = 0 then (if pb_is h12 v0 11 then ((pb_R h12 v0 18).bind fun q14 => (if pb_ar h12 q14 12 1 then (if 6 ≤ (pb_I h12 q14 (1 : Int32).toNatClampNeg) then (some ((1, h12))) else ((pb_R h12 v0 19).bind fun q16 => (if pb_ar h12 q16 12 0 then (if pb_ar h12 q14 12 (14 + (pb_I h12 q14 (1 : Int32).toNatClampNeg)) then (if pb_ar h12 q16 12 1 then (if pb_ar h12 q14 12 (20 + (pb_I h12 q14 (1 : Int32).toNatClampNeg)) then (pb_hb (pb_pI (pb_pI h12 q14 (14 + (pb_I h12 q14 (1 : Int32).toNatClampNeg)).toNatClampNeg (pb_I h12 q16 (0 : Int32).toNatClampNeg)) q14 (20 + (pb_I h12 q14 (1 : Int32).toNatClampNeg)).toNatClampNeg (pb_I (pb_pI h12 q14 (14 + (pb_I h12 q14 (1 : Int32).toNatClampNeg)).toNatClampNeg (pb_I h12 q16 (0 : Int32).toNatClampNeg)) q16 (1 : Int32).toNatClampNeg)) fun h21 => (some ((1, pb_pI h21 q14 (1 : Int32).toNatClampNeg ((pb_I h21 q14 (1 : Int32).toNatClampNeg) + 1))))) else none) else none) else none) else none))) else none)) else none) else (some ((0, h12))))) else none))) else none)) else none)) else none
set_option maxRecDepth 4000 in
theorem l_186 {xs : List Int32} {d : Nat} {N : Nat} {h : pb_HP} {v0 : Nat} {v1 : Int32} {r : Int32} {hE : pb_HP} (hf : f_186 N h v0 v1 = some ((r, hE))) : pb_AR xs (d + 4) 186 h [.ref v0, .int v1] (some (.int r)) hE := by
  intro G hG
  have hc_ : pb_CODE 186 = kc_186 := rfl
  rw [hc_] at hG
  unfold f_186 at hf
  refine hG.1 0 0 kb_186_0 _ _ _ rfl ?_
  obtain ⟨hg1, hf⟩ := pb_gd hf
  obtain ⟨h3, cr2, hf⟩ := Option.bind_eq_some_iff.mp hf
  refine And.intro hg1 (And.intro (Nat.le_of_ble_eq_true rfl) (And.intro (Nat.le_of_ble_eq_true rfl) (Exists.intro none (Exists.intro _ (And.intro (l_184 cr2) (?_))))))
  obtain ⟨hg4, hf⟩ := pb_gd hf
  obtain ⟨h6, cr5, hf⟩ := Option.bind_eq_some_iff.mp hf
  refine And.intro hg4 (And.intro (Nat.le_of_ble_eq_true rfl) (And.intro (Nat.le_of_ble_eq_true rfl) (Exists.intro none (Exists.intro _ (And.intro (l_180 cr5) (?_))))))
  obtain ⟨hg7, hf⟩ := pb_gd hf
  obtain ⟨⟨r8, h9⟩, cr8, hf⟩ := Option.bind_eq_some_iff.mp hf
  try dsimp only at hf
  refine And.intro hg7 (And.intro (Nat.le_of_ble_eq_true rfl) (And.intro (Nat.le_of_ble_eq_true rfl) (Exists.intro (some (.int r8)) (Exists.intro _ (And.intro (l_183 cr8) (?_))))))
  refine And.intro (fun (hc32 : r8 = 0) => ?_) (fun (hc32 : ¬ (r8 = 0)) => ?_)
  · rw [if_pos hc32] at hf
    refine hG.1 1 34 kb_186_34 _ _ _ rfl ?_
    cases hf
    exact And.intro (fun _ => Or.inl rfl) (And.intro rfl rfl)
  · rw [if_neg hc32] at hf
    obtain ⟨hg10, hf⟩ := pb_gd hf
    obtain ⟨⟨r11, h12⟩, cr11, hf⟩ := Option.bind_eq_some_iff.mp hf
    try dsimp only at hf
    refine And.intro hg10 (And.intro (Nat.le_of_ble_eq_true rfl) (And.intro (Nat.le_of_ble_eq_true rfl) (Exists.intro (some (.int r11)) (Exists.intro _ (And.intro (l_183 cr11) (?_))))))
    refine And.intro (fun (hc31 : ¬ r11 = 0) => ?_) (fun (hc31 : ¬ (¬ r11 = 0)) => ?_)
    · rw [if_pos hc31] at hf
      refine hG.1 2 36 kb_186_36 _ _ _ rfl ?_
      obtain ⟨hg13, hf⟩ := pb_gd hf
      obtain ⟨q14, eq14, hf⟩ := Option.bind_eq_some_iff.mp hf
      obtain ⟨hg15, hf⟩ := pb_gd hf
      refine And.intro hg13 (Exists.intro q14 (And.intro eq14 (And.intro hg15 (?_))))
      refine And.intro (fun (hc30 : 6 ≤ (pb_I h12 q14 (1 : Int32).toNatClampNeg)) => ?_) (fun (hc30 : ¬ (6 ≤ (pb_I h12 q14 (1 : Int32).toNatClampNeg))) => ?_)
      · rw [if_pos hc30] at hf
        refine hG.1 3 89 kb_186_89 _ _ _ rfl ?_
        cases hf
        exact And.intro (fun _ => Or.inr rfl) (And.intro rfl rfl)
      · rw [if_neg hc30] at hf
        obtain ⟨q16, eq16, hf⟩ := Option.bind_eq_some_iff.mp hf
        obtain ⟨hg17, hf⟩ := pb_gd hf
        obtain ⟨hg18, hf⟩ := pb_gd hf
        obtain ⟨hg19, hf⟩ := pb_gd hf
        obtain ⟨hg20, hf⟩ := pb_gd hf
        refine And.intro hg13 (Exists.intro q14 (And.intro eq14 (And.intro hg13 (Exists.intro q16 (And.intro eq16 (And.intro hg17 (And.intro hg18 (And.intro hg13 (Exists.intro q14 (And.intro eq14 (And.intro hg13 (Exists.intro q16 (And.intro eq16 (And.intro hg19 (And.intro hg20 (?_))))))))))))))))
        refine pb_hset (E := pb_pI (pb_pI h12 q14 (14 + (pb_I h12 q14 (1 : Int32).toNatClampNeg)).toNatClampNeg (pb_I h12 q16 (0 : Int32).toNatClampNeg)) q14 (20 + (pb_I h12 q14 (1 : Int32).toNatClampNeg)).toNatClampNeg (pb_I (pb_pI h12 q14 (14 + (pb_I h12 q14 (1 : Int32).toNatClampNeg)).toNatClampNeg (pb_I h12 q16 (0 : Int32).toNatClampNeg)) q16 (1 : Int32).toNatClampNeg)) rfl (fun h21 eh21 => ?_)
        have hf := pb_hbd hf eh21
        have hg22 : pb_is h21 v0 11 := pb_isx eh21 hg13
        have hg23 : pb_ar h21 q14 12 1 := pb_arx eh21 hg15
        have hg24 : pb_ar h21 q16 12 0 := pb_arx eh21 hg17
        have hg25 : pb_ar h21 q14 12 (14 + (pb_I h12 q14 (1 : Int32).toNatClampNeg)) := pb_arx eh21 hg18
        have hg26 : pb_ar h21 q16 12 1 := pb_arx eh21 hg19
        have hg27 : pb_ar h21 q14 12 (20 + (pb_I h12 q14 (1 : Int32).toNatClampNeg)) := pb_arx eh21 hg20
        have eq28 : pb_R h21 v0 18 = some q14 := pb_Rx eh21 eq14
        have eq29 : pb_R h21 v0 19 = some q16 := pb_Rx eh21 eq16
        refine And.intro hg22 (Exists.intro q14 (And.intro eq28 (And.intro hg23 (And.intro hg23 (?_)))))
        refine hG.1 3 89 kb_186_89 _ _ _ rfl ?_
        cases hf
        exact And.intro (fun _ => Or.inr rfl) (And.intro rfl rfl)
    · rw [if_neg hc31] at hf
      refine hG.1 1 34 kb_186_34 _ _ _ rfl ?_
      cases hf
      exact And.intro (fun _ => Or.inl rfl) (And.intro rfl rfl)
def f_190_102 (N : Nat) (h : pb_HP) (v0 : Nat) (v4 : Int32) : Option (Int32 × pb_HP) :=
  if pb_is h v0 11 then ((pb_R h v0 19).bind fun q14 => (if pb_ar h q14 12 0 then ((f_188 N (pb_pI h q14 (0 : Int32).toNatClampNeg v4) v0 4 40).bind fun h17 => (some ((1, h17)))) else none)) else none
def f_190_83 (N : Nat) (h : pb_HP) (v0 : Nat) (v4 : Int32) : Option (Int32 × pb_HP) :=
  if ¬ v4 = 3 then (f_190_102 N h v0 v4) else (if pb_is h v0 11 then ((f_183 N h v0 3 1 9).bind fun (r19, h20) => (if ¬ r19 = 0 then (f_190_102 N h20 v0 v4) else (some ((0, h20))))) else none)
def f_190_67 (N : Nat) (h : pb_HP) (v0 : Nat) (v4 : Int32) : Option (Int32 × pb_HP) :=
  if 4 ≤ v4 then (f_190_83 N h v0 v4) else (if pb_is h v0 11 then ((f_183 N h v0 2 0 5).bind fun (r24, h25) => (if r24 = 0 then (some ((0, h25))) else (f_190_83 N h25 v0 v4))) else none)
/-- PointedBenchModel.yearLine -/
def f_190 (N : Nat) (h : pb_HP) (v0 : Nat) (v1 : Int64) (v3 : Int32) : Option (Int32 × pb_HP) :=
  if pb_is h v0 11 then ((f_189 v0 v1).bind fun r2 => (if ¬ r2 = ((-1)) then ((f_184 h v0 0 40 v3).bind fun h4 => (if pb_is h4 v0 11 then ((f_180 N h4 v0).bind fun h7 => (if pb_is h7 v0 11 then ((pb_R h7 v0 19).bind fun q9 => (if pb_ar h7 q9 12 1 then (if pb_ar h7 q9 12 2 then (if pb_ar h7 q9 12 3 then (if 5 ≤ r2 then (f_190_67 N (pb_pI (pb_pI (pb_pI h7 q9 (1 : Int32).toNatClampNeg ((-1))) q9 (2 : Int32).toNatClampNeg ((-1))) q9 (3 : Int32).toNatClampNeg ((-1))) v0 r2) else ((f_183 N (pb_pI (pb_pI (pb_pI h7 q9 (1 : Int32).toNatClampNeg ((-1))) q9 (2 : Int32).toNatClampNeg ((-1))) q9 (3 : Int32).toNatClampNeg ((-1))) v0 1 0 5).bind fun (r28, h29) => (if r28 = 0 then (some ((0, h29))) else (f_190_67 N h29 v0 r2)))) else none) else none) else none)) else none)) else none)) else ((f_181 h v0).bind fun (r32, h33) => (if r32 = 0 ∨ r32 = 1 then (some ((r32, h33))) else none)))) else none
set_option maxRecDepth 4000 in
theorem l_190 {xs : List Int32} {d : Nat} {N : Nat} {h : pb_HP} {v0 : Nat} {v1 : Int64} {v3 : Int32} {r : Int32} {hE : pb_HP} (hf : f_190 N h v0 v1 v3 = some ((r, hE))) : pb_AR xs (d + 4) 190 h [.ref v0, .long v1, .int v3] (some (.int r)) hE := by
  intro G hG
  have hc_ : pb_CODE 190 = kc_190 := rfl
  rw [hc_] at hG
  have hj_102 : ∀ (h : pb_HP) (v0 : Nat) (v4 : Int32), f_190_102 N h v0 v4 = some ((r, hE)) → G 102 [(0, .ref v0), (4, .int v4)] [] h := by
    intro h v0 v4 hf
    unfold f_190_102 at hf
    refine hG.1 5 102 kb_190_102 _ _ _ rfl ?_
    obtain ⟨hg13, hf⟩ := pb_gd hf
    obtain ⟨q14, eq14, hf⟩ := Option.bind_eq_some_iff.mp hf
    obtain ⟨hg15, hf⟩ := pb_gd hf
    refine And.intro hg13 (Exists.intro q14 (And.intro eq14 (And.intro hg15 (?_))))
    obtain ⟨h17, cr16, hf⟩ := Option.bind_eq_some_iff.mp hf
    refine And.intro hg13 (And.intro (Nat.le_of_ble_eq_true rfl) (And.intro (Nat.le_of_ble_eq_true rfl) (Exists.intro none (Exists.intro _ (And.intro (l_188 cr16) (?_))))))
    cases hf
    exact And.intro (fun _ => Or.inr rfl) (And.intro rfl rfl)
  have hj_83 : ∀ (h : pb_HP) (v0 : Nat) (v4 : Int32), f_190_83 N h v0 v4 = some ((r, hE)) → G 83 [(0, .ref v0), (4, .int v4)] [] h := by
    intro h v0 v4 hf
    unfold f_190_83 at hf
    refine hG.1 3 83 kb_190_83 _ _ _ rfl ?_
    refine And.intro (fun (hc22 : ¬ v4 = 3) => ?_) (fun (hc22 : ¬ (¬ v4 = 3)) => ?_)
    · rw [if_pos hc22] at hf
      exact hj_102 _ _ _ hf
    · rw [if_neg hc22] at hf
      obtain ⟨hg18, hf⟩ := pb_gd hf
      obtain ⟨⟨r19, h20⟩, cr19, hf⟩ := Option.bind_eq_some_iff.mp hf
      try dsimp only at hf
      refine And.intro hg18 (And.intro (Nat.le_of_ble_eq_true rfl) (And.intro (Nat.le_of_ble_eq_true rfl) (Exists.intro (some (.int r19)) (Exists.intro _ (And.intro (l_183 cr19) (?_))))))
      refine And.intro (fun (hc21 : ¬ r19 = 0) => ?_) (fun (hc21 : ¬ (¬ r19 = 0)) => ?_)
      · rw [if_pos hc21] at hf
        exact hj_102 _ _ _ hf
      · rw [if_neg hc21] at hf
        refine hG.1 4 100 kb_190_100 _ _ _ rfl ?_
        cases hf
        exact And.intro (fun _ => Or.inl rfl) (And.intro rfl rfl)
  have hj_67 : ∀ (h : pb_HP) (v0 : Nat) (v4 : Int32), f_190_67 N h v0 v4 = some ((r, hE)) → G 67 [(0, .ref v0), (4, .int v4)] [] h := by
    intro h v0 v4 hf
    unfold f_190_67 at hf
    refine hG.1 2 67 kb_190_67 _ _ _ rfl ?_
    refine And.intro (fun (hc27 : 4 ≤ v4) => ?_) (fun (hc27 : ¬ (4 ≤ v4)) => ?_)
    · rw [if_pos hc27] at hf
      exact hj_83 _ _ _ hf
    · rw [if_neg hc27] at hf
      obtain ⟨hg23, hf⟩ := pb_gd hf
      obtain ⟨⟨r24, h25⟩, cr24, hf⟩ := Option.bind_eq_some_iff.mp hf
      try dsimp only at hf
      refine And.intro hg23 (And.intro (Nat.le_of_ble_eq_true rfl) (And.intro (Nat.le_of_ble_eq_true rfl) (Exists.intro (some (.int r24)) (Exists.intro _ (And.intro (l_183 cr24) (?_))))))
      refine And.intro (fun (hc26 : r24 = 0) => ?_) (fun (hc26 : ¬ (r24 = 0)) => ?_)
      · rw [if_pos hc26] at hf
        refine hG.1 4 100 kb_190_100 _ _ _ rfl ?_
        cases hf
        exact And.intro (fun _ => Or.inl rfl) (And.intro rfl rfl)
      · rw [if_neg hc26] at hf
        exact hj_83 _ _ _ hf
  unfold f_190 at hf
  refine hG.1 0 0 kb_190_0 _ _ _ rfl ?_
  obtain ⟨hg1, hf⟩ := pb_gd hf
  obtain ⟨r2, cr2, hf⟩ := Option.bind_eq_some_iff.mp hf
  refine And.intro hg1 (And.intro (Nat.le_of_ble_eq_true rfl) (And.intro (Nat.le_of_ble_eq_true rfl) (Exists.intro (some (.int r2)) (Exists.intro _ (And.intro (l_189 cr2) (?_))))))
  refine And.intro (fun (hc35 : ¬ r2 = ((-1))) => ?_) (fun (hc35 : ¬ (¬ r2 = ((-1)))) => ?_)
  · rw [if_pos hc35] at hf
    refine hG.1 1 18 kb_190_18 _ _ _ rfl ?_
    obtain ⟨h4, cr3, hf⟩ := Option.bind_eq_some_iff.mp hf
    refine And.intro hg1 (And.intro (Nat.le_of_ble_eq_true rfl) (And.intro (Nat.le_of_ble_eq_true rfl) (Exists.intro none (Exists.intro _ (And.intro (l_184 cr3) (?_))))))
    obtain ⟨hg5, hf⟩ := pb_gd hf
    obtain ⟨h7, cr6, hf⟩ := Option.bind_eq_some_iff.mp hf
    refine And.intro hg5 (And.intro (Nat.le_of_ble_eq_true rfl) (And.intro (Nat.le_of_ble_eq_true rfl) (Exists.intro none (Exists.intro _ (And.intro (l_180 cr6) (?_))))))
    obtain ⟨hg8, hf⟩ := pb_gd hf
    obtain ⟨q9, eq9, hf⟩ := Option.bind_eq_some_iff.mp hf
    obtain ⟨hg10, hf⟩ := pb_gd hf
    obtain ⟨hg11, hf⟩ := pb_gd hf
    obtain ⟨hg12, hf⟩ := pb_gd hf
    refine And.intro hg8 (Exists.intro q9 (And.intro eq9 (And.intro hg10 (And.intro hg8 (Exists.intro q9 (And.intro eq9 (And.intro hg11 (And.intro hg8 (Exists.intro q9 (And.intro eq9 (And.intro hg12 (?_))))))))))))
    refine And.intro (fun (hc31 : 5 ≤ r2) => ?_) (fun (hc31 : ¬ (5 ≤ r2)) => ?_)
    · rw [if_pos hc31] at hf
      refine hG.2 67 _ [0, 3] _ _ _ rfl ?_
      exact hj_67 _ _ _ hf
    · rw [if_neg hc31] at hf
      obtain ⟨⟨r28, h29⟩, cr28, hf⟩ := Option.bind_eq_some_iff.mp hf
      try dsimp only at hf
      refine And.intro hg8 (And.intro (Nat.le_of_ble_eq_true rfl) (And.intro (Nat.le_of_ble_eq_true rfl) (Exists.intro (some (.int r28)) (Exists.intro _ (And.intro (l_183 cr28) (?_))))))
      refine And.intro (fun (hc30 : r28 = 0) => ?_) (fun (hc30 : ¬ (r28 = 0)) => ?_)
      · rw [if_pos hc30] at hf
        refine hG.1 4 100 kb_190_100 _ _ _ rfl ?_
        cases hf
        exact And.intro (fun _ => Or.inl rfl) (And.intro rfl rfl)
      · rw [if_neg hc30] at hf
        refine hG.2 67 _ [0, 3] _ _ _ rfl ?_
        exact hj_67 _ _ _ hf
  · rw [if_neg hc35] at hf
    obtain ⟨⟨r32, h33⟩, cr32, hf⟩ := Option.bind_eq_some_iff.mp hf
    try dsimp only at hf
    refine And.intro hg1 (And.intro (Nat.le_of_ble_eq_true rfl) (And.intro (Nat.le_of_ble_eq_true rfl) (Exists.intro (some (.int r32)) (Exists.intro _ (And.intro (l_181 cr32) (?_))))))
    obtain ⟨hg34, hf⟩ := pb_gd hf
    cases hf
    exact And.intro (fun _ => hg34) (And.intro rfl rfl)
def f_191_75 (N : Nat) (h : pb_HP) (v0 : Nat) (s0 : Int32) (s1 : Int32) (s2 : Nat) : Option (Int32 × pb_HP) :=
  if pb_ar h s2 12 s1 then (if pb_is h v0 11 then ((f_188 N (pb_pI h s2 s1.toNatClampNeg s0) v0 3 8).bind fun h18 => (some ((1, h18)))) else none) else none
def f_191_21 (N : Nat) (h : pb_HP) (v0 : Nat) (v1 : Int64) (v3 : Int32) : Option (Int32 × pb_HP) :=
  if pb_is h v0 11 then ((f_184 h v0 0 8 v3).bind fun h3 => (if pb_is h3 v0 11 then ((f_180 N h3 v0).bind fun h6 => (if pb_is h6 v0 11 then ((f_183 N h6 v0 1 0 63).bind fun (r8, h9) => (if r8 = 0 then (some ((0, h9))) else (if pb_is h9 v0 11 then ((f_183 N h9 v0 2 0 63).bind fun (r11, h12) => (if ¬ r11 = 0 then (if pb_is h12 v0 11 then ((pb_R h12 v0 19).bind fun q14 => (if ¬ (lg_cmp v1 31650977226781299) = 0 then (f_191_75 N h12 v0 1 0 q14) else (f_191_75 N h12 v0 0 0 q14))) else none) else (some ((0, h12))))) else none))) else none)) else none)) else none
/-- PointedBenchModel.logLine -/
def f_191 (N : Nat) (h : pb_HP) (v0 : Nat) (v1 : Int64) (v3 : Int32) : Option (Int32 × pb_HP) :=
  if (lg_cmp v1 31650977226781299) = 0 then (f_191_21 N h v0 v1 v3) else (if (lg_cmp v1 7237492) = 0 then (f_191_21 N h v0 v1 v3) else (if pb_is h v0 11 then ((f_181 h v0).bind fun (r23, h24) => (if r23 = 0 ∨ r23 = 1 then (some ((r23, h24))) else none)) else none))
set_option maxRecDepth 4000 in
theorem l_191 {xs : List Int32} {d : Nat} {N : Nat} {h : pb_HP} {v0 : Nat} {v1 : Int64} {v3 : Int32} {r : Int32} {hE : pb_HP} (hf : f_191 N h v0 v1 v3 = some ((r, hE))) : pb_AR xs (d + 4) 191 h [.ref v0, .long v1, .int v3] (some (.int r)) hE := by
  intro G hG
  have hc_ : pb_CODE 191 = kc_191 := rfl
  rw [hc_] at hG
  have hj_75 : ∀ (h : pb_HP) (v0 : Nat) (s0 : Int32) (s1 : Int32) (s2 : Nat), f_191_75 N h v0 s0 s1 s2 = some ((r, hE)) → G 75 [(0, .ref v0)] [.int s0, .int s1, .ref s2] h := by
    intro h v0 s0 s1 s2 hf
    unfold f_191_75 at hf
    refine hG.1 5 75 kb_191_75 _ _ _ rfl ?_
    obtain ⟨hg15, hf⟩ := pb_gd hf
    obtain ⟨hg16, hf⟩ := pb_gd hf
    refine And.intro hg15 (?_)
    obtain ⟨h18, cr17, hf⟩ := Option.bind_eq_some_iff.mp hf
    refine And.intro hg16 (And.intro (Nat.le_of_ble_eq_true rfl) (And.intro (Nat.le_of_ble_eq_true rfl) (Exists.intro none (Exists.intro _ (And.intro (l_188 cr17) (?_))))))
    cases hf
    exact And.intro (fun _ => Or.inr rfl) (And.intro rfl rfl)
  have hj_21 : ∀ (h : pb_HP) (v0 : Nat) (v1 : Int64) (v3 : Int32), f_191_21 N h v0 v1 v3 = some ((r, hE)) → G 21 [(0, .ref v0), (1, .long v1), (3, .int v3)] [] h := by
    intro h v0 v1 v3 hf
    unfold f_191_21 at hf
    refine hG.1 1 21 kb_191_21 _ _ _ rfl ?_
    obtain ⟨hg1, hf⟩ := pb_gd hf
    obtain ⟨h3, cr2, hf⟩ := Option.bind_eq_some_iff.mp hf
    refine And.intro hg1 (And.intro (Nat.le_of_ble_eq_true rfl) (And.intro (Nat.le_of_ble_eq_true rfl) (Exists.intro none (Exists.intro _ (And.intro (l_184 cr2) (?_))))))
    obtain ⟨hg4, hf⟩ := pb_gd hf
    obtain ⟨h6, cr5, hf⟩ := Option.bind_eq_some_iff.mp hf
    refine And.intro hg4 (And.intro (Nat.le_of_ble_eq_true rfl) (And.intro (Nat.le_of_ble_eq_true rfl) (Exists.intro none (Exists.intro _ (And.intro (l_180 cr5) (?_))))))
    obtain ⟨hg7, hf⟩ := pb_gd hf
    obtain ⟨⟨r8, h9⟩, cr8, hf⟩ := Option.bind_eq_some_iff.mp hf
    try dsimp only at hf
    refine And.intro hg7 (And.intro (Nat.le_of_ble_eq_true rfl) (And.intro (Nat.le_of_ble_eq_true rfl) (Exists.intro (some (.int r8)) (Exists.intro _ (And.intro (l_183 cr8) (?_))))))
    refine And.intro (fun (hc21 : r8 = 0) => ?_) (fun (hc21 : ¬ (r8 = 0)) => ?_)
    · rw [if_pos hc21] at hf
      refine hG.1 2 55 kb_191_55 _ _ _ rfl ?_
      cases hf
      exact And.intro (fun _ => Or.inl rfl) (And.intro rfl rfl)
    · rw [if_neg hc21] at hf
      obtain ⟨hg10, hf⟩ := pb_gd hf
      obtain ⟨⟨r11, h12⟩, cr11, hf⟩ := Option.bind_eq_some_iff.mp hf
      try dsimp only at hf
      refine And.intro hg10 (And.intro (Nat.le_of_ble_eq_true rfl) (And.intro (Nat.le_of_ble_eq_true rfl) (Exists.intro (some (.int r11)) (Exists.intro _ (And.intro (l_183 cr11) (?_))))))
      refine And.intro (fun (hc20 : ¬ r11 = 0) => ?_) (fun (hc20 : ¬ (¬ r11 = 0)) => ?_)
      · rw [if_pos hc20] at hf
        refine hG.1 3 57 kb_191_57 _ _ _ rfl ?_
        obtain ⟨hg13, hf⟩ := pb_gd hf
        obtain ⟨q14, eq14, hf⟩ := Option.bind_eq_some_iff.mp hf
        refine And.intro hg13 (Exists.intro q14 (And.intro eq14 (?_)))
        refine And.intro (fun (hc19 : ¬ (lg_cmp v1 31650977226781299) = 0) => ?_) (fun (hc19 : ¬ (¬ (lg_cmp v1 31650977226781299) = 0)) => ?_)
        · rw [if_pos hc19] at hf
          refine hG.1 4 74 kb_191_74 _ _ _ rfl ?_
          refine hG.2 75 _ [0] _ _ _ rfl ?_
          exact hj_75 _ _ _ _ _ hf
        · rw [if_neg hc19] at hf
          refine hG.2 75 _ [0] _ _ _ rfl ?_
          exact hj_75 _ _ _ _ _ hf
      · rw [if_neg hc20] at hf
        refine hG.1 2 55 kb_191_55 _ _ _ rfl ?_
        cases hf
        exact And.intro (fun _ => Or.inl rfl) (And.intro rfl rfl)
  unfold f_191 at hf
  refine hG.1 0 0 kb_191_0 _ _ _ rfl ?_
  refine And.intro (fun (hc27 : (lg_cmp v1 31650977226781299) = 0) => ?_) (fun (hc27 : ¬ ((lg_cmp v1 31650977226781299) = 0)) => ?_)
  · rw [if_pos hc27] at hf
    exact hj_21 _ _ _ _ hf
  · rw [if_neg hc27] at hf
    refine And.intro (fun (hc26 : (lg_cmp v1 7237492) = 0) => ?_) (fun (hc26 : ¬ ((lg_cmp v1 7237492) = 0)) => ?_)
    · rw [if_pos hc26] at hf
      exact hj_21 _ _ _ _ hf
    · rw [if_neg hc26] at hf
      obtain ⟨hg22, hf⟩ := pb_gd hf
      obtain ⟨⟨r23, h24⟩, cr23, hf⟩ := Option.bind_eq_some_iff.mp hf
      try dsimp only at hf
      refine And.intro hg22 (And.intro (Nat.le_of_ble_eq_true rfl) (And.intro (Nat.le_of_ble_eq_true rfl) (Exists.intro (some (.int r23)) (Exists.intro _ (And.intro (l_181 cr23) (?_))))))
      obtain ⟨hg25, hf⟩ := pb_gd hf
      cases hf
      exact And.intro (fun _ => hg25) (And.intro rfl rfl)
/-- PointedBenchModel.points -/
def f_207 (N : Nat) (h : pb_HP) (v0 : Nat) (v1 : Int32) : Option (Int32) :=
  if pb_is h v0 11 then ((f_206 N h v0 v1 63).bind fun r2 => (some r2)) else none
set_option maxRecDepth 4000 in
theorem l_207 {xs : List Int32} {d : Nat} {N : Nat} {h : pb_HP} {v0 : Nat} {v1 : Int32} {r : Int32} (hf : f_207 N h v0 v1 = some r) : pb_AR xs (d + 4) 207 h [.ref v0, .int v1] (some (.int r)) h := by
  intro G hG
  have hc_ : pb_CODE 207 = kc_207 := rfl
  rw [hc_] at hG
  unfold f_207 at hf
  refine hG.1 0 0 kb_207_0 _ _ _ rfl ?_
  obtain ⟨hg1, hf⟩ := pb_gd hf
  obtain ⟨r2, cr2, hf⟩ := Option.bind_eq_some_iff.mp hf
  refine And.intro hg1 (And.intro (Nat.le_of_ble_eq_true rfl) (And.intro (Nat.le_of_ble_eq_true rfl) (Exists.intro (some (.int r2)) (Exists.intro _ (And.intro (l_206 cr2) (?_))))))
  cases hf
  exact And.intro (fun z_ => absurd z_ (by decide)) (And.intro rfl rfl)
def f_211_135 (N : Nat) (h : pb_HP) (v0 : Nat) (v2 : Int32) (v3 : Int32) : Option (Int32 × pb_HP) :=
  if pb_is h v0 11 then (if (pb_I h v0 24) ≤ v3 then (some (((-1), h))) else ((f_197 h v0 ((2 + (6 * ((v2 / 10) - 1))) + v3)).bind fun r11 => (some ((r11, h))))) else none
def f_211_165 (N : Nat) (h : pb_HP) (v0 : Nat) (v2 : Int32) (v3 : Int32) : Option (Int32 × pb_HP) :=
  if pb_is h v0 11 then (if (pb_I h v0 25) ≤ v3 then (some (((-1), h))) else ((f_197 h v0 ((14 + (6 * ((v2 / 10) - 3))) + v3)).bind fun r16 => (some ((r16, h))))) else none
/-- PointedBenchModel.county -/
def f_211 (N : Nat) (h : pb_HP) (v0 : Nat) (v1 : Int32) (v2 : Int32) : Option (Int32 × pb_HP) :=
  if pb_is h v0 11 then ((f_198 N (pb_pI h v0 0 0) v0 v1).bind fun (r2, h3) => (if ¬ r2 = 0 then (if v2 < 100 then (if (v2 / 10) = 0 then ((f_168 v2 0 1).bind fun r5 => (if r5 = 0 then (some (((-1), h3))) else (if pb_is h3 v0 11 then ((f_197 h3 v0 v2).bind fun r7 => (some ((r7, h3)))) else none))) else if (v2 / 10) = 1 then (f_211_135 N h3 v0 v2 (v2 - v2 / 10 * 10)) else if (v2 / 10) = 2 then (f_211_135 N h3 v0 v2 (v2 - v2 / 10 * 10)) else if (v2 / 10) = 3 then (f_211_165 N h3 v0 v2 (v2 - v2 / 10 * 10)) else if (v2 / 10) = 4 then (f_211_165 N h3 v0 v2 (v2 - v2 / 10 * 10)) else if (v2 / 10) = 5 then (f_211_165 N h3 v0 v2 (v2 - v2 / 10 * 10)) else (some (((-1), h3)))) else (if 160 ≤ v2 then (some (((-1), h3))) else (if pb_is h3 v0 11 then ((f_201 h3 v0 ((v2 - 100) / 10)).bind fun r21 => (if r21 = 0 then (some (((-1), h3))) else (if 6 ≤ (v2 - v2 / 10 * 10) then (some (((-1), h3))) else ((pb_R h3 v0 34).bind fun q22 => (if pb_ar h3 q22 12 ((6 * ((v2 - 100) / 10)) + (v2 - v2 / 10 * 10)) then (some ((pb_I h3 q22 ((6 * ((v2 - 100) / 10)) + (v2 - v2 / 10 * 10)).toNatClampNeg, h3))) else none))))) else none))) else (some (((-1), h3))))) else none
set_option maxRecDepth 4000 in
theorem l_211 {xs : List Int32} {d : Nat} {N : Nat} {h : pb_HP} {v0 : Nat} {v1 : Int32} {v2 : Int32} {r : Int32} {hE : pb_HP} (hf : f_211 N h v0 v1 v2 = some ((r, hE))) : pb_AR xs (d + 4) 211 h [.ref v0, .int v1, .int v2] (some (.int r)) hE := by
  intro G hG
  have hc_ : pb_CODE 211 = kc_211 := rfl
  rw [hc_] at hG
  have hj_135 : ∀ (h : pb_HP) (v0 : Nat) (v2 : Int32) (v3 : Int32), f_211_135 N h v0 v2 v3 = some ((r, hE)) → G 135 [(0, .ref v0), (2, .int v2), (3, .int v3)] [] h := by
    intro h v0 v2 v3 hf
    unfold f_211_135 at hf
    refine hG.1 8 135 kb_211_135 _ _ _ rfl ?_
    obtain ⟨hg10, hf⟩ := pb_gd hf
    refine And.intro hg10 (?_)
    refine And.intro (fun (hc12 : (pb_I h v0 24) ≤ v3) => ?_) (fun (hc12 : ¬ ((pb_I h v0 24) ≤ v3)) => ?_)
    · rw [if_pos hc12] at hf
      refine hG.1 9 163 kb_211_163 _ _ _ rfl ?_
      refine hG.1 10 164 kb_211_164 _ _ _ rfl ?_
      cases hf
      exact And.intro (fun z_ => absurd z_ (by decide)) (And.intro rfl rfl)
    · rw [if_neg hc12] at hf
      refine And.intro (by decide) (?_)
      obtain ⟨r11, cr11, hf⟩ := Option.bind_eq_some_iff.mp hf
      refine And.intro hg10 (And.intro (Nat.le_of_ble_eq_true rfl) (And.intro (Nat.le_of_ble_eq_true rfl) (Exists.intro (some (.int r11)) (Exists.intro _ (And.intro (l_197 cr11) (?_))))))
      refine hG.1 10 164 kb_211_164 _ _ _ rfl ?_
      cases hf
      exact And.intro (fun z_ => absurd z_ (by decide)) (And.intro rfl rfl)
  have hj_165 : ∀ (h : pb_HP) (v0 : Nat) (v2 : Int32) (v3 : Int32), f_211_165 N h v0 v2 v3 = some ((r, hE)) → G 165 [(0, .ref v0), (2, .int v2), (3, .int v3)] [] h := by
    intro h v0 v2 v3 hf
    unfold f_211_165 at hf
    refine hG.1 11 165 kb_211_165 _ _ _ rfl ?_
    obtain ⟨hg15, hf⟩ := pb_gd hf
    refine And.intro hg15 (?_)
    refine And.intro (fun (hc17 : (pb_I h v0 25) ≤ v3) => ?_) (fun (hc17 : ¬ ((pb_I h v0 25) ≤ v3)) => ?_)
    · rw [if_pos hc17] at hf
      refine hG.1 12 194 kb_211_194 _ _ _ rfl ?_
      refine hG.1 13 195 kb_211_195 _ _ _ rfl ?_
      cases hf
      exact And.intro (fun z_ => absurd z_ (by decide)) (And.intro rfl rfl)
    · rw [if_neg hc17] at hf
      refine And.intro (by decide) (?_)
      obtain ⟨r16, cr16, hf⟩ := Option.bind_eq_some_iff.mp hf
      refine And.intro hg15 (And.intro (Nat.le_of_ble_eq_true rfl) (And.intro (Nat.le_of_ble_eq_true rfl) (Exists.intro (some (.int r16)) (Exists.intro _ (And.intro (l_197 cr16) (?_))))))
      refine hG.1 13 195 kb_211_195 _ _ _ rfl ?_
      cases hf
      exact And.intro (fun z_ => absurd z_ (by decide)) (And.intro rfl rfl)
  unfold f_211 at hf
  refine hG.1 0 0 kb_211_0 _ _ _ rfl ?_
  obtain ⟨hg1, hf⟩ := pb_gd hf
  refine And.intro hg1 (?_)
  obtain ⟨⟨r2, h3⟩, cr2, hf⟩ := Option.bind_eq_some_iff.mp hf
  try dsimp only at hf
  refine And.intro hg1 (And.intro (Nat.le_of_ble_eq_true rfl) (And.intro (Nat.le_of_ble_eq_true rfl) (Exists.intro (some (.int r2)) (Exists.intro _ (And.intro (l_198 cr2) (?_))))))
  refine And.intro (fun (hc28 : ¬ r2 = 0) => ?_) (fun (hc28 : ¬ (¬ r2 = 0)) => ?_)
  · rw [if_pos hc28] at hf
    refine hG.1 1 15 kb_211_15 _ _ _ rfl ?_
    refine And.intro (by decide) (?_)
    refine And.intro (fun (hc27 : v2 < 100) => ?_) (fun (hc27 : ¬ (v2 < 100)) => ?_)
    · rw [if_pos hc27] at hf
      refine hG.1 4 75 kb_211_75 _ _ _ rfl ?_
      refine And.intro (by decide) (?_)
      by_cases hc4 : (v2 / 10) = 0
      · rw [if_pos hc4] at hf
        refine pb_gs (G := G) (tgt := 116) (show pb_swt 79 117 0 5 #[37, 56, 56, 86, 86, 86] (v2 / 10) = 116 by rw [hc4]; decide) ?_
        refine hG.1 5 116 kb_211_116 _ _ _ rfl ?_
        obtain ⟨r5, cr5, hf⟩ := Option.bind_eq_some_iff.mp hf
        refine And.intro (Nat.le_of_ble_eq_true rfl) (And.intro (Nat.le_of_ble_eq_true rfl) (And.intro (Nat.le_of_ble_eq_true rfl) (Exists.intro (some (.int r5)) (Exists.intro _ (And.intro (l_168 cr5) (?_))))))
        refine And.intro (fun (hc8 : r5 = 0) => ?_) (fun (hc8 : ¬ (r5 = 0)) => ?_)
        · rw [if_pos hc8] at hf
          refine hG.1 6 133 kb_211_133 _ _ _ rfl ?_
          refine hG.1 7 134 kb_211_134 _ _ _ rfl ?_
          cases hf
          exact And.intro (fun z_ => absurd z_ (by decide)) (And.intro rfl rfl)
        · rw [if_neg hc8] at hf
          obtain ⟨hg6, hf⟩ := pb_gd hf
          obtain ⟨r7, cr7, hf⟩ := Option.bind_eq_some_iff.mp hf
          refine And.intro hg6 (And.intro (Nat.le_of_ble_eq_true rfl) (And.intro (Nat.le_of_ble_eq_true rfl) (Exists.intro (some (.int r7)) (Exists.intro _ (And.intro (l_197 cr7) (?_))))))
          refine hG.1 7 134 kb_211_134 _ _ _ rfl ?_
          cases hf
          exact And.intro (fun z_ => absurd z_ (by decide)) (And.intro rfl rfl)
      rw [if_neg hc4] at hf
      by_cases hc9 : (v2 / 10) = 1
      · rw [if_pos hc9] at hf
        refine pb_gs (G := G) (tgt := 135) (show pb_swt 79 117 0 5 #[37, 56, 56, 86, 86, 86] (v2 / 10) = 135 by rw [hc9]; decide) ?_
        refine hG.2 135 _ [0, 2, 3] _ _ _ rfl ?_
        exact hj_135 _ _ _ _ hf
      rw [if_neg hc9] at hf
      by_cases hc13 : (v2 / 10) = 2
      · rw [if_pos hc13] at hf
        refine pb_gs (G := G) (tgt := 135) (show pb_swt 79 117 0 5 #[37, 56, 56, 86, 86, 86] (v2 / 10) = 135 by rw [hc13]; decide) ?_
        refine hG.2 135 _ [0, 2, 3] _ _ _ rfl ?_
        exact hj_135 _ _ _ _ hf
      rw [if_neg hc13] at hf
      by_cases hc14 : (v2 / 10) = 3
      · rw [if_pos hc14] at hf
        refine pb_gs (G := G) (tgt := 165) (show pb_swt 79 117 0 5 #[37, 56, 56, 86, 86, 86] (v2 / 10) = 165 by rw [hc14]; decide) ?_
        refine hG.2 165 _ [0, 2, 3] _ _ _ rfl ?_
        exact hj_165 _ _ _ _ hf
      rw [if_neg hc14] at hf
      by_cases hc18 : (v2 / 10) = 4
      · rw [if_pos hc18] at hf
        refine pb_gs (G := G) (tgt := 165) (show pb_swt 79 117 0 5 #[37, 56, 56, 86, 86, 86] (v2 / 10) = 165 by rw [hc18]; decide) ?_
        refine hG.2 165 _ [0, 2, 3] _ _ _ rfl ?_
        exact hj_165 _ _ _ _ hf
      rw [if_neg hc18] at hf
      by_cases hc19 : (v2 / 10) = 5
      · rw [if_pos hc19] at hf
        refine pb_gs (G := G) (tgt := 165) (show pb_swt 79 117 0 5 #[37, 56, 56, 86, 86, 86] (v2 / 10) = 165 by rw [hc19]; decide) ?_
        refine hG.2 165 _ [0, 2, 3] _ _ _ rfl ?_
        exact hj_165 _ _ _ _ hf
      rw [if_neg hc19] at hf
      refine pb_gs (G := G) (tgt := 196) (show pb_swt 79 117 0 5 #[37, 56, 56, 86, 86, 86] (v2 / 10) = 196 from pb_swd (by decide) (by decide) (fun k_ hk_ => by
        have hk_ : k_ < 6 := hk_
        match k_, hk_ with
        | 0, _ => exact hc4
        | 1, _ => exact hc9
        | 2, _ => exact hc13
        | 3, _ => exact hc14
        | 4, _ => exact hc18
        | 5, _ => exact hc19
        | k_ + 6, hk_ => omega)) ?_
      refine hG.1 14 196 kb_211_196 _ _ _ rfl ?_
      cases hf
      exact And.intro (fun z_ => absurd z_ (by decide)) (And.intro rfl rfl)
    · rw [if_neg hc27] at hf
      refine And.intro (fun (hc26 : 160 ≤ v2) => ?_) (fun (hc26 : ¬ (160 ≤ v2)) => ?_)
      · rw [if_pos hc26] at hf
        refine hG.1 2 73 kb_211_73 _ _ _ rfl ?_
        refine hG.1 3 74 kb_211_74 _ _ _ rfl ?_
        cases hf
        exact And.intro (fun z_ => absurd z_ (by decide)) (And.intro rfl rfl)
      · rw [if_neg hc26] at hf
        obtain ⟨hg20, hf⟩ := pb_gd hf
        refine And.intro (by decide) (?_)
        obtain ⟨r21, cr21, hf⟩ := Option.bind_eq_some_iff.mp hf
        refine And.intro hg20 (And.intro (Nat.le_of_ble_eq_true rfl) (And.intro (Nat.le_of_ble_eq_true rfl) (Exists.intro (some (.int r21)) (Exists.intro _ (And.intro (l_201 cr21) (?_))))))
        refine And.intro (fun (hc25 : r21 = 0) => ?_) (fun (hc25 : ¬ (r21 = 0)) => ?_)
        · rw [if_pos hc25] at hf
          refine hG.1 2 73 kb_211_73 _ _ _ rfl ?_
          refine hG.1 3 74 kb_211_74 _ _ _ rfl ?_
          cases hf
          exact And.intro (fun z_ => absurd z_ (by decide)) (And.intro rfl rfl)
        · rw [if_neg hc25] at hf
          refine And.intro (fun (hc24 : 6 ≤ (v2 - v2 / 10 * 10)) => ?_) (fun (hc24 : ¬ (6 ≤ (v2 - v2 / 10 * 10))) => ?_)
          · rw [if_pos hc24] at hf
            refine hG.1 2 73 kb_211_73 _ _ _ rfl ?_
            refine hG.1 3 74 kb_211_74 _ _ _ rfl ?_
            cases hf
            exact And.intro (fun z_ => absurd z_ (by decide)) (And.intro rfl rfl)
          · rw [if_neg hc24] at hf
            obtain ⟨q22, eq22, hf⟩ := Option.bind_eq_some_iff.mp hf
            obtain ⟨hg23, hf⟩ := pb_gd hf
            refine And.intro hg20 (Exists.intro q22 (And.intro eq22 (And.intro (by decide) (And.intro hg23 (?_)))))
            refine hG.1 3 74 kb_211_74 _ _ _ rfl ?_
            cases hf
            exact And.intro (fun z_ => absurd z_ (by decide)) (And.intro rfl rfl)
  · rw [if_neg hc28] at hf
    cases hf
    exact And.intro (fun z_ => absurd z_ (by decide)) (And.intro rfl rfl)
/-- PointedBenchModel.deed -/
def f_215 (h : pb_HP) (v0 : Nat) (v1 : Int32) (v2 : Int32) (v3 : Int32) : Option (Int32 × pb_HP) :=
  if pb_is h v0 11 then ((f_214 (pb_pI h v0 0 0) v0 v1).bind fun (r2, h3) => (if ¬ r2 = 0 then (if ¬ v2 = ((-1)) then (if pb_is h3 v0 11 then ((f_212 h3 v0).bind fun r5 => ((f_168 v2 0 (r5 - 1)).bind fun r6 => (if r6 = 0 then (some (((-2), h3))) else ((f_168 v3 0 3).bind fun r7 => (if r7 = 0 then (some (((-2), h3))) else ((f_213 h3 v0 v2 v3).bind fun r8 => (some ((r8, h3))))))))) else none) else (if ¬ v3 = 0 then (some (((-2), h3))) else (if pb_is h3 v0 11 then ((f_212 h3 v0).bind fun r12 => (some ((r12, h3)))) else none))) else (some (((-2), h3))))) else none
set_option maxRecDepth 4000 in
theorem l_215 {xs : List Int32} {d : Nat} {h : pb_HP} {v0 : Nat} {v1 : Int32} {v2 : Int32} {v3 : Int32} {r : Int32} {hE : pb_HP} (hf : f_215 h v0 v1 v2 v3 = some ((r, hE))) : pb_AR xs (d + 4) 215 h [.ref v0, .int v1, .int v2, .int v3] (some (.int r)) hE := by
  intro G hG
  have hc_ : pb_CODE 215 = kc_215 := rfl
  rw [hc_] at hG
  unfold f_215 at hf
  refine hG.1 0 0 kb_215_0 _ _ _ rfl ?_
  obtain ⟨hg1, hf⟩ := pb_gd hf
  refine And.intro hg1 (?_)
  obtain ⟨⟨r2, h3⟩, cr2, hf⟩ := Option.bind_eq_some_iff.mp hf
  try dsimp only at hf
  refine And.intro hg1 (And.intro (Nat.le_of_ble_eq_true rfl) (And.intro (Nat.le_of_ble_eq_true rfl) (Exists.intro (some (.int r2)) (Exists.intro _ (And.intro (l_214 cr2) (?_))))))
  refine And.intro (fun (hc15 : ¬ r2 = 0) => ?_) (fun (hc15 : ¬ (¬ r2 = 0)) => ?_)
  · rw [if_pos hc15] at hf
    refine hG.1 1 16 kb_215_16 _ _ _ rfl ?_
    refine And.intro (fun (hc14 : ¬ v2 = ((-1))) => ?_) (fun (hc14 : ¬ (¬ v2 = ((-1)))) => ?_)
    · rw [if_pos hc14] at hf
      refine hG.1 4 35 kb_215_35 _ _ _ rfl ?_
      obtain ⟨hg4, hf⟩ := pb_gd hf
      obtain ⟨r5, cr5, hf⟩ := Option.bind_eq_some_iff.mp hf
      refine And.intro hg4 (And.intro (Nat.le_of_ble_eq_true rfl) (And.intro (Nat.le_of_ble_eq_true rfl) (Exists.intro (some (.int r5)) (Exists.intro _ (And.intro (l_212 cr5) (?_))))))
      obtain ⟨r6, cr6, hf⟩ := Option.bind_eq_some_iff.mp hf
      refine And.intro (Nat.le_of_ble_eq_true rfl) (And.intro (Nat.le_of_ble_eq_true rfl) (And.intro (Nat.le_of_ble_eq_true rfl) (Exists.intro (some (.int r6)) (Exists.intro _ (And.intro (l_168 cr6) (?_))))))
      refine And.intro (fun (hc10 : r6 = 0) => ?_) (fun (hc10 : ¬ (r6 = 0)) => ?_)
      · rw [if_pos hc10] at hf
        refine hG.1 5 67 kb_215_67 _ _ _ rfl ?_
        refine hG.1 6 69 kb_215_69 _ _ _ rfl ?_
        cases hf
        exact And.intro (fun z_ => absurd z_ (by decide)) (And.intro rfl rfl)
      · rw [if_neg hc10] at hf
        obtain ⟨r7, cr7, hf⟩ := Option.bind_eq_some_iff.mp hf
        refine And.intro (Nat.le_of_ble_eq_true rfl) (And.intro (Nat.le_of_ble_eq_true rfl) (And.intro (Nat.le_of_ble_eq_true rfl) (Exists.intro (some (.int r7)) (Exists.intro _ (And.intro (l_168 cr7) (?_))))))
        refine And.intro (fun (hc9 : r7 = 0) => ?_) (fun (hc9 : ¬ (r7 = 0)) => ?_)
        · rw [if_pos hc9] at hf
          refine hG.1 5 67 kb_215_67 _ _ _ rfl ?_
          refine hG.1 6 69 kb_215_69 _ _ _ rfl ?_
          cases hf
          exact And.intro (fun z_ => absurd z_ (by decide)) (And.intro rfl rfl)
        · rw [if_neg hc9] at hf
          obtain ⟨r8, cr8, hf⟩ := Option.bind_eq_some_iff.mp hf
          refine And.intro hg4 (And.intro (Nat.le_of_ble_eq_true rfl) (And.intro (Nat.le_of_ble_eq_true rfl) (Exists.intro (some (.int r8)) (Exists.intro _ (And.intro (l_213 cr8) (?_))))))
          refine hG.1 6 69 kb_215_69 _ _ _ rfl ?_
          cases hf
          exact And.intro (fun z_ => absurd z_ (by decide)) (And.intro rfl rfl)
    · rw [if_neg hc14] at hf
      refine And.intro (fun (hc13 : ¬ v3 = 0) => ?_) (fun (hc13 : ¬ (¬ v3 = 0)) => ?_)
      · rw [if_pos hc13] at hf
        refine hG.1 2 32 kb_215_32 _ _ _ rfl ?_
        refine hG.1 3 34 kb_215_34 _ _ _ rfl ?_
        cases hf
        exact And.intro (fun z_ => absurd z_ (by decide)) (And.intro rfl rfl)
      · rw [if_neg hc13] at hf
        obtain ⟨hg11, hf⟩ := pb_gd hf
        obtain ⟨r12, cr12, hf⟩ := Option.bind_eq_some_iff.mp hf
        refine And.intro hg11 (And.intro (Nat.le_of_ble_eq_true rfl) (And.intro (Nat.le_of_ble_eq_true rfl) (Exists.intro (some (.int r12)) (Exists.intro _ (And.intro (l_212 cr12) (?_))))))
        refine hG.1 3 34 kb_215_34 _ _ _ rfl ?_
        cases hf
        exact And.intro (fun z_ => absurd z_ (by decide)) (And.intro rfl rfl)
  · rw [if_neg hc15] at hf
    cases hf
    exact And.intro (fun z_ => absurd z_ (by decide)) (And.intro rfl rfl)
/-- PointedBenchModel.layAll -/
def f_223 (N : Nat) (h : pb_HP) (v0 : Nat) (v1 : Int32) (v2 : Int32) : Option (Int32 × pb_HP) :=
  if pb_is h v0 11 then ((f_214 h v0 v2).bind fun (r2, h3) => (if r2 = 0 then (some ((0, h3))) else (if pb_is h3 v0 11 then ((f_198 N h3 v0 v1).bind fun (r5, h6) => (if r5 = 0 then (some ((0, h6))) else (some ((1, h6))))) else none))) else none
set_option maxRecDepth 4000 in
theorem l_223 {xs : List Int32} {d : Nat} {N : Nat} {h : pb_HP} {v0 : Nat} {v1 : Int32} {v2 : Int32} {r : Int32} {hE : pb_HP} (hf : f_223 N h v0 v1 v2 = some ((r, hE))) : pb_AR xs (d + 4) 223 h [.ref v0, .int v1, .int v2] (some (.int r)) hE := by
  intro G hG
  have hc_ : pb_CODE 223 = kc_223 := rfl
  rw [hc_] at hG
  unfold f_223 at hf
  refine hG.1 0 0 kb_223_0 _ _ _ rfl ?_
  obtain ⟨hg1, hf⟩ := pb_gd hf
  obtain ⟨⟨r2, h3⟩, cr2, hf⟩ := Option.bind_eq_some_iff.mp hf
  try dsimp only at hf
  refine And.intro hg1 (And.intro (Nat.le_of_ble_eq_true rfl) (And.intro (Nat.le_of_ble_eq_true rfl) (Exists.intro (some (.int r2)) (Exists.intro _ (And.intro (l_214 cr2) (?_))))))
  refine And.intro (fun (hc8 : r2 = 0) => ?_) (fun (hc8 : ¬ (r2 = 0)) => ?_)
  · rw [if_pos hc8] at hf
    refine hG.1 1 20 kb_223_20 _ _ _ rfl ?_
    refine hG.1 2 21 kb_223_21 _ _ _ rfl ?_
    cases hf
    exact And.intro (fun _ => Or.inl rfl) (And.intro rfl rfl)
  · rw [if_neg hc8] at hf
    obtain ⟨hg4, hf⟩ := pb_gd hf
    obtain ⟨⟨r5, h6⟩, cr5, hf⟩ := Option.bind_eq_some_iff.mp hf
    try dsimp only at hf
    refine And.intro hg4 (And.intro (Nat.le_of_ble_eq_true rfl) (And.intro (Nat.le_of_ble_eq_true rfl) (Exists.intro (some (.int r5)) (Exists.intro _ (And.intro (l_198 cr5) (?_))))))
    refine And.intro (fun (hc7 : r5 = 0) => ?_) (fun (hc7 : ¬ (r5 = 0)) => ?_)
    · rw [if_pos hc7] at hf
      refine hG.1 1 20 kb_223_20 _ _ _ rfl ?_
      refine hG.1 2 21 kb_223_21 _ _ _ rfl ?_
      cases hf
      exact And.intro (fun _ => Or.inl rfl) (And.intro rfl rfl)
    · rw [if_neg hc7] at hf
      refine hG.1 2 21 kb_223_21 _ _ _ rfl ?_
      cases hf
      exact And.intro (fun _ => Or.inr rfl) (And.intro rfl rfl)
def f_242_40s (N : Nat) (h : pb_HP) (v0 : Nat) (v2 : Int32) (v3 : Int32) (v4 : Int32) (v5 : Int32) (s : Int32 × Int32) : Option ((Int32 × Int32) ⊕ (Int32)) :=
  if pb_is h v0 11 then (if (pb_I h v0 25) ≤ s.2 then (some (.inr s.1)) else ((pb_R h v0 32).bind fun q8 => (if pb_ar h q8 12 s.2 then (if (pb_I h q8 s.2.toNatClampNeg) ≤ 0 then (some (.inl ((s.1 + 0, s.2 + 1)))) else (some (.inl ((s.1 + 1, s.2 + 1))))) else none))) else none
/-- PointedBenchModel.quiet -/
def f_242 (N : Nat) (h : pb_HP) (v0 : Nat) (v1 : Int32) (v2 : Int32) (v3 : Int32) (v4 : Int32) (v5 : Int32) : Option (Int64 × pb_HP) :=
  if pb_is h v0 11 then ((f_168 v3 1 3).bind fun r2 => (if r2 = 0 then (some (((-1), pb_pI h v0 0 0))) else ((f_198 N (pb_pI h v0 0 0) v0 v1).bind fun (r3, h4) => (if r3 = 0 then (some (((-1), h4))) else (if pb_is h4 v0 11 then ((f_200 h4 v0 v2).bind fun r6 => (if ¬ r6 = 0 then ((pb_wl (f_242_40s N h4 v0 v2 v3 v4 v5) N ((0, 0))).bind fun e12 => ((f_197 h4 v0 (2 + v2)).bind fun r13 => (if ¬ v4 = 0 then ((f_234 N 10 v3).bind fun r14 => ((f_234 N (10 - (Int32.toInt64 r13)) v3).bind fun r15 => ((f_234 N (r14 - r15) e12).bind fun r16 => ((f_234 N 10 (v3 * e12)).bind fun r17 => ((f_233 N r16 r17 v5).bind fun r18 => (some ((r18, h4)))))))) else ((f_234 N (10 - (Int32.toInt64 r13)) e12).bind fun r19 => ((f_234 N 10 e12).bind fun r20 => ((f_233 N r19 r20 v5).bind fun r21 => (some ((r21, h4))))))))) else (some (((-1), h4))))) else none))))) else none
set_option maxRecDepth 4000 in
theorem l_242 {xs : List Int32} {d : Nat} {N : Nat} {h : pb_HP} {v0 : Nat} {v1 : Int32} {v2 : Int32} {v3 : Int32} {v4 : Int32} {v5 : Int32} {r : Int64} {hE : pb_HP} (hf : f_242 N h v0 v1 v2 v3 v4 v5 = some ((r, hE))) : pb_AR xs (d + 4) 242 h [.ref v0, .int v1, .int v2, .int v3, .int v4, .int v5] (some (.long r)) hE := by
  intro G hG
  have hc_ : pb_CODE 242 = kc_242 := rfl
  rw [hc_] at hG
  have hl_40 : ∀ (h : pb_HP) (v0 : Nat) (v2 : Int32) (v3 : Int32) (v4 : Int32) (v5 : Int32) (n_ : Nat) (s : Int32 × Int32) (e : Int32), pb_wl (f_242_40s N h v0 v2 v3 v4 v5) n_ s = some e → G 75 [(0, .ref v0), (2, .int v2), (3, .int v3), (4, .int v4), (5, .int v5), (6, .int e)] [] h → G 40 [(0, .ref v0), (2, .int v2), (3, .int v3), (4, .int v4), (5, .int v5), (6, .int s.1), (7, .int s.2)] [] h := by
    intro h v0 v2 v3 v4 v5
    refine pb_wl_ind (I := fun (s : Int32 × Int32) => G 40 [(0, .ref v0), (2, .int v2), (3, .int v3), (4, .int v4), (5, .int v5), (6, .int s.1), (7, .int s.2)] [] h) (K := fun (e : Int32) => G 75 [(0, .ref v0), (2, .int v2), (3, .int v3), (4, .int v4), (5, .int v5), (6, .int e)] [] h) (fun s x hf hk => ?_)
    unfold f_242_40s at hf
    refine hG.1 3 40 kb_242_40 _ _ _ rfl ?_
    obtain ⟨hg7, hf⟩ := pb_gd hf
    refine And.intro hg7 (?_)
    refine And.intro (fun (hc11 : (pb_I h v0 25) ≤ s.2) => ?_) (fun (hc11 : ¬ ((pb_I h v0 25) ≤ s.2)) => ?_)
    · rw [if_pos hc11] at hf
      cases hf
      exact hG.2 75 _ [0, 1, 2, 3, 4, 5] _ _ _ rfl hk
    · rw [if_neg hc11] at hf
      obtain ⟨q8, eq8, hf⟩ := Option.bind_eq_some_iff.mp hf
      obtain ⟨hg9, hf⟩ := pb_gd hf
      refine And.intro hg7 (Exists.intro q8 (And.intro eq8 (And.intro hg9 (?_))))
      refine And.intro (fun (hc10 : (pb_I h q8 s.2.toNatClampNeg) ≤ 0) => ?_) (fun (hc10 : ¬ ((pb_I h q8 s.2.toNatClampNeg) ≤ 0)) => ?_)
      · rw [if_pos hc10] at hf
        refine hG.1 4 65 kb_242_65 _ _ _ rfl ?_
        refine hG.1 5 66 kb_242_66 _ _ _ rfl ?_
        cases hf
        exact hk
      · rw [if_neg hc10] at hf
        refine hG.1 5 66 kb_242_66 _ _ _ rfl ?_
        cases hf
        exact hk
  unfold f_242 at hf
  refine hG.1 0 0 kb_242_0 _ _ _ rfl ?_
  obtain ⟨hg1, hf⟩ := pb_gd hf
  refine And.intro hg1 (?_)
  obtain ⟨r2, cr2, hf⟩ := Option.bind_eq_some_iff.mp hf
  refine And.intro (Nat.le_of_ble_eq_true rfl) (And.intro (Nat.le_of_ble_eq_true rfl) (And.intro (Nat.le_of_ble_eq_true rfl) (Exists.intro (some (.int r2)) (Exists.intro _ (And.intro (l_168 cr2) (?_))))))
  refine And.intro (fun (hc25 : r2 = 0) => ?_) (fun (hc25 : ¬ (r2 = 0)) => ?_)
  · rw [if_pos hc25] at hf
    refine hG.1 1 30 kb_242_30 _ _ _ rfl ?_
    cases hf
    exact And.intro rfl rfl
  · rw [if_neg hc25] at hf
    obtain ⟨⟨r3, h4⟩, cr3, hf⟩ := Option.bind_eq_some_iff.mp hf
    try dsimp only at hf
    refine And.intro hg1 (And.intro (Nat.le_of_ble_eq_true rfl) (And.intro (Nat.le_of_ble_eq_true rfl) (Exists.intro (some (.int r3)) (Exists.intro _ (And.intro (l_198 cr3) (?_))))))
    refine And.intro (fun (hc24 : r3 = 0) => ?_) (fun (hc24 : ¬ (r3 = 0)) => ?_)
    · rw [if_pos hc24] at hf
      refine hG.1 1 30 kb_242_30 _ _ _ rfl ?_
      cases hf
      exact And.intro rfl rfl
    · rw [if_neg hc24] at hf
      obtain ⟨hg5, hf⟩ := pb_gd hf
      obtain ⟨r6, cr6, hf⟩ := Option.bind_eq_some_iff.mp hf
      refine And.intro hg5 (And.intro (Nat.le_of_ble_eq_true rfl) (And.intro (Nat.le_of_ble_eq_true rfl) (Exists.intro (some (.int r6)) (Exists.intro _ (And.intro (l_200 cr6) (?_))))))
      refine And.intro (fun (hc23 : ¬ r6 = 0) => ?_) (fun (hc23 : ¬ (¬ r6 = 0)) => ?_)
      · rw [if_pos hc23] at hf
        refine hG.1 2 34 kb_242_34 _ _ _ rfl ?_
        obtain ⟨e12, he_e12, hf⟩ := Option.bind_eq_some_iff.mp hf
        refine hG.2 40 _ [0, 2, 3, 4, 5, 6, 7] _ _ _ rfl ?_
        refine hl_40 _ _ _ _ _ _ _ _ _ he_e12 ?_
        refine hG.1 6 75 kb_242_75 _ _ _ rfl ?_
        obtain ⟨r13, cr13, hf⟩ := Option.bind_eq_some_iff.mp hf
        refine And.intro hg5 (And.intro (Nat.le_of_ble_eq_true rfl) (And.intro (Nat.le_of_ble_eq_true rfl) (Exists.intro (some (.int r13)) (Exists.intro _ (And.intro (l_197 cr13) (?_))))))
        refine And.intro (fun (hc22 : ¬ v4 = 0) => ?_) (fun (hc22 : ¬ (¬ v4 = 0)) => ?_)
        · rw [if_pos hc22] at hf
          refine hG.1 7 115 kb_242_115 _ _ _ rfl ?_
          obtain ⟨r14, cr14, hf⟩ := Option.bind_eq_some_iff.mp hf
          refine And.intro (Nat.le_of_ble_eq_true rfl) (And.intro (Nat.le_of_ble_eq_true rfl) (And.intro (Nat.le_of_ble_eq_true rfl) (Exists.intro (some (.long r14)) (Exists.intro _ (And.intro (l_234 cr14) (?_))))))
          obtain ⟨r15, cr15, hf⟩ := Option.bind_eq_some_iff.mp hf
          refine And.intro (Nat.le_of_ble_eq_true rfl) (And.intro (Nat.le_of_ble_eq_true rfl) (And.intro (Nat.le_of_ble_eq_true rfl) (Exists.intro (some (.long r15)) (Exists.intro _ (And.intro (l_234 cr15) (?_))))))
          obtain ⟨r16, cr16, hf⟩ := Option.bind_eq_some_iff.mp hf
          refine And.intro (Nat.le_of_ble_eq_true rfl) (And.intro (Nat.le_of_ble_eq_true rfl) (And.intro (Nat.le_of_ble_eq_true rfl) (Exists.intro (some (.long r16)) (Exists.intro _ (And.intro (l_234 cr16) (?_))))))
          obtain ⟨r17, cr17, hf⟩ := Option.bind_eq_some_iff.mp hf
          refine And.intro (Nat.le_of_ble_eq_true rfl) (And.intro (Nat.le_of_ble_eq_true rfl) (And.intro (Nat.le_of_ble_eq_true rfl) (Exists.intro (some (.long r17)) (Exists.intro _ (And.intro (l_234 cr17) (?_))))))
          obtain ⟨r18, cr18, hf⟩ := Option.bind_eq_some_iff.mp hf
          refine And.intro (Nat.le_of_ble_eq_true rfl) (And.intro (Nat.le_of_ble_eq_true rfl) (And.intro (Nat.le_of_ble_eq_true rfl) (Exists.intro (some (.long r18)) (Exists.intro _ (And.intro (l_233 cr18) (?_))))))
          cases hf
          exact And.intro rfl rfl
        · rw [if_neg hc22] at hf
          obtain ⟨r19, cr19, hf⟩ := Option.bind_eq_some_iff.mp hf
          refine And.intro (Nat.le_of_ble_eq_true rfl) (And.intro (Nat.le_of_ble_eq_true rfl) (And.intro (Nat.le_of_ble_eq_true rfl) (Exists.intro (some (.long r19)) (Exists.intro _ (And.intro (l_234 cr19) (?_))))))
          obtain ⟨r20, cr20, hf⟩ := Option.bind_eq_some_iff.mp hf
          refine And.intro (Nat.le_of_ble_eq_true rfl) (And.intro (Nat.le_of_ble_eq_true rfl) (And.intro (Nat.le_of_ble_eq_true rfl) (Exists.intro (some (.long r20)) (Exists.intro _ (And.intro (l_234 cr20) (?_))))))
          obtain ⟨r21, cr21, hf⟩ := Option.bind_eq_some_iff.mp hf
          refine And.intro (Nat.le_of_ble_eq_true rfl) (And.intro (Nat.le_of_ble_eq_true rfl) (And.intro (Nat.le_of_ble_eq_true rfl) (Exists.intro (some (.long r21)) (Exists.intro _ (And.intro (l_233 cr21) (?_))))))
          cases hf
          exact And.intro rfl rfl
      · rw [if_neg hc23] at hf
        refine hG.1 1 30 kb_242_30 _ _ _ rfl ?_
        cases hf
        exact And.intro rfl rfl
/-- PointedBenchModel.fact -/
def f_246 (h : pb_HP) (v0 : Nat) (v1 : Int32) (v2 : Int32) (v3 : Int32) : Option (Int32 × pb_HP) :=
  if pb_is h v0 11 then ((f_245 (pb_pI h v0 0 0) v0 v1).bind fun (r2, h3) => (if ¬ r2 = 0 then (if ¬ v2 = ((-1)) then (if pb_is h3 v0 11 then ((f_244 h3 v0).bind fun r5 => ((f_168 v2 0 (r5 - 1)).bind fun r6 => (if r6 = 0 then (some (((-2), h3))) else ((f_168 v3 0 2).bind fun r7 => (if r7 = 0 then (some (((-2), h3))) else ((f_243 h3 v0 v2 v3).bind fun r8 => (some ((r8, h3))))))))) else none) else (if ¬ v3 = 0 then (some (((-2), h3))) else (if pb_is h3 v0 11 then ((f_244 h3 v0).bind fun r12 => (some ((r12, h3)))) else none))) else (some (((-2), h3))))) else none
set_option maxRecDepth 4000 in
theorem l_246 {xs : List Int32} {d : Nat} {h : pb_HP} {v0 : Nat} {v1 : Int32} {v2 : Int32} {v3 : Int32} {r : Int32} {hE : pb_HP} (hf : f_246 h v0 v1 v2 v3 = some ((r, hE))) : pb_AR xs (d + 4) 246 h [.ref v0, .int v1, .int v2, .int v3] (some (.int r)) hE := by
  intro G hG
  have hc_ : pb_CODE 246 = kc_246 := rfl
  rw [hc_] at hG
  unfold f_246 at hf
  refine hG.1 0 0 kb_246_0 _ _ _ rfl ?_
  obtain ⟨hg1, hf⟩ := pb_gd hf
  refine And.intro hg1 (?_)
  obtain ⟨⟨r2, h3⟩, cr2, hf⟩ := Option.bind_eq_some_iff.mp hf
  try dsimp only at hf
  refine And.intro hg1 (And.intro (Nat.le_of_ble_eq_true rfl) (And.intro (Nat.le_of_ble_eq_true rfl) (Exists.intro (some (.int r2)) (Exists.intro _ (And.intro (l_245 cr2) (?_))))))
  refine And.intro (fun (hc15 : ¬ r2 = 0) => ?_) (fun (hc15 : ¬ (¬ r2 = 0)) => ?_)
  · rw [if_pos hc15] at hf
    refine hG.1 1 16 kb_246_16 _ _ _ rfl ?_
    refine And.intro (fun (hc14 : ¬ v2 = ((-1))) => ?_) (fun (hc14 : ¬ (¬ v2 = ((-1)))) => ?_)
    · rw [if_pos hc14] at hf
      refine hG.1 4 35 kb_246_35 _ _ _ rfl ?_
      obtain ⟨hg4, hf⟩ := pb_gd hf
      obtain ⟨r5, cr5, hf⟩ := Option.bind_eq_some_iff.mp hf
      refine And.intro hg4 (And.intro (Nat.le_of_ble_eq_true rfl) (And.intro (Nat.le_of_ble_eq_true rfl) (Exists.intro (some (.int r5)) (Exists.intro _ (And.intro (l_244 cr5) (?_))))))
      obtain ⟨r6, cr6, hf⟩ := Option.bind_eq_some_iff.mp hf
      refine And.intro (Nat.le_of_ble_eq_true rfl) (And.intro (Nat.le_of_ble_eq_true rfl) (And.intro (Nat.le_of_ble_eq_true rfl) (Exists.intro (some (.int r6)) (Exists.intro _ (And.intro (l_168 cr6) (?_))))))
      refine And.intro (fun (hc10 : r6 = 0) => ?_) (fun (hc10 : ¬ (r6 = 0)) => ?_)
      · rw [if_pos hc10] at hf
        refine hG.1 5 67 kb_246_67 _ _ _ rfl ?_
        refine hG.1 6 69 kb_246_69 _ _ _ rfl ?_
        cases hf
        exact And.intro (fun z_ => absurd z_ (by decide)) (And.intro rfl rfl)
      · rw [if_neg hc10] at hf
        obtain ⟨r7, cr7, hf⟩ := Option.bind_eq_some_iff.mp hf
        refine And.intro (Nat.le_of_ble_eq_true rfl) (And.intro (Nat.le_of_ble_eq_true rfl) (And.intro (Nat.le_of_ble_eq_true rfl) (Exists.intro (some (.int r7)) (Exists.intro _ (And.intro (l_168 cr7) (?_))))))
        refine And.intro (fun (hc9 : r7 = 0) => ?_) (fun (hc9 : ¬ (r7 = 0)) => ?_)
        · rw [if_pos hc9] at hf
          refine hG.1 5 67 kb_246_67 _ _ _ rfl ?_
          refine hG.1 6 69 kb_246_69 _ _ _ rfl ?_
          cases hf
          exact And.intro (fun z_ => absurd z_ (by decide)) (And.intro rfl rfl)
        · rw [if_neg hc9] at hf
          obtain ⟨r8, cr8, hf⟩ := Option.bind_eq_some_iff.mp hf
          refine And.intro hg4 (And.intro (Nat.le_of_ble_eq_true rfl) (And.intro (Nat.le_of_ble_eq_true rfl) (Exists.intro (some (.int r8)) (Exists.intro _ (And.intro (l_243 cr8) (?_))))))
          refine hG.1 6 69 kb_246_69 _ _ _ rfl ?_
          cases hf
          exact And.intro (fun z_ => absurd z_ (by decide)) (And.intro rfl rfl)
    · rw [if_neg hc14] at hf
      refine And.intro (fun (hc13 : ¬ v3 = 0) => ?_) (fun (hc13 : ¬ (¬ v3 = 0)) => ?_)
      · rw [if_pos hc13] at hf
        refine hG.1 2 32 kb_246_32 _ _ _ rfl ?_
        refine hG.1 3 34 kb_246_34 _ _ _ rfl ?_
        cases hf
        exact And.intro (fun z_ => absurd z_ (by decide)) (And.intro rfl rfl)
      · rw [if_neg hc13] at hf
        obtain ⟨hg11, hf⟩ := pb_gd hf
        obtain ⟨r12, cr12, hf⟩ := Option.bind_eq_some_iff.mp hf
        refine And.intro hg11 (And.intro (Nat.le_of_ble_eq_true rfl) (And.intro (Nat.le_of_ble_eq_true rfl) (Exists.intro (some (.int r12)) (Exists.intro _ (And.intro (l_244 cr12) (?_))))))
        refine hG.1 3 34 kb_246_34 _ _ _ rfl ?_
        cases hf
        exact And.intro (fun z_ => absurd z_ (by decide)) (And.intro rfl rfl)
  · rw [if_neg hc15] at hf
    cases hf
    exact And.intro (fun z_ => absurd z_ (by decide)) (And.intro rfl rfl)
def f_250_46 (N : Nat) (h : pb_HP) (v0 : Nat) (v1 : Int32) (v3 : Int32) (s0 : Int32) (s1 : Int32) : Option ((Int32 × Int32) ⊕ (Int32)) :=
  if ¬ s1 = s0 then (some (.inl ((0, v3 + 1)))) else (some (.inl ((1, v3 + 1))))
def f_250_4s (N : Nat) (h : pb_HP) (v0 : Nat) (v1 : Int32) (s : Int32 × Int32) : Option ((Int32 × Int32) ⊕ (Int32)) :=
  if pb_is h v0 11 then ((f_244 h v0).bind fun r2 => (if r2 ≤ s.2 then (some (.inr s.1)) else (if s.1 = 0 then (some (.inr s.1)) else ((f_243 h v0 s.2 1).bind fun r3 => ((f_243 h v0 s.2 2).bind fun r4 => ((f_249 N v1 r3 r4).bind fun r5 => ((f_243 h v0 s.2 0).bind fun r6 => (if ¬ r6 = 0 then (f_250_46 N h v0 v1 s.2 0 r5) else (f_250_46 N h v0 v1 s.2 1 r5))))))))) else none
/-- PointedBenchModel.isFit -/
def f_250 (N : Nat) (h : pb_HP) (v0 : Nat) (v1 : Int32) : Option (Int32) :=
  (pb_wl (f_250_4s N h v0 v1) N ((1, 0))).bind fun e11 => (if e11 = 0 ∨ e11 = 1 then (some e11) else none)
set_option maxRecDepth 4000 in
theorem l_250 {xs : List Int32} {d : Nat} {N : Nat} {h : pb_HP} {v0 : Nat} {v1 : Int32} {r : Int32} (hf : f_250 N h v0 v1 = some r) : pb_AR xs (d + 4) 250 h [.ref v0, .int v1] (some (.int r)) h := by
  intro G hG
  have hc_ : pb_CODE 250 = kc_250 := rfl
  rw [hc_] at hG
  have hj_46 : ∀ (v0 : Nat) (v1 : Int32) (v3 : Int32) (s0 : Int32) (s1 : Int32) x, f_250_46 N h v0 v1 v3 s0 s1 = some x → pb_kk (fun (s_ : Int32 × Int32) => G 4 [(0, .ref v0), (1, .int v1), (2, .int s_.1), (3, .int s_.2)] [] h) (fun (e_ : Int32) => G 61 [(2, .int e_)] [] h) x → G 46 [(0, .ref v0), (1, .int v1), (3, .int v3)] [.int s0, .int s1] h := by
    intro v0 v1 v3 s0 s1 x hf hk
    unfold f_250_46 at hf
    refine hG.1 3 46 kb_250_46 _ _ _ rfl ?_
    refine And.intro (fun (hc7 : ¬ s1 = s0) => ?_) (fun (hc7 : ¬ (¬ s1 = s0)) => ?_)
    · rw [if_pos hc7] at hf
      refine hG.1 4 53 kb_250_53 _ _ _ rfl ?_
      refine hG.1 5 54 kb_250_54 _ _ _ rfl ?_
      cases hf
      exact hG.2 4 _ [0, 1, 3, 2] _ _ _ rfl hk
    · rw [if_neg hc7] at hf
      refine hG.1 5 54 kb_250_54 _ _ _ rfl ?_
      cases hf
      exact hG.2 4 _ [0, 1, 3, 2] _ _ _ rfl hk
  have hl_4 : ∀ (v0 : Nat) (v1 : Int32) (n_ : Nat) (s : Int32 × Int32) (e : Int32), pb_wl (f_250_4s N h v0 v1) n_ s = some e → G 61 [(2, .int e)] [] h → G 4 [(0, .ref v0), (1, .int v1), (2, .int s.1), (3, .int s.2)] [] h := by
    intro v0 v1
    refine pb_wl_ind (I := fun (s : Int32 × Int32) => G 4 [(0, .ref v0), (1, .int v1), (2, .int s.1), (3, .int s.2)] [] h) (K := fun (e : Int32) => G 61 [(2, .int e)] [] h) (fun s x hf hk => ?_)
    unfold f_250_4s at hf
    refine hG.1 1 4 kb_250_4 _ _ _ rfl ?_
    obtain ⟨hg1, hf⟩ := pb_gd hf
    obtain ⟨r2, cr2, hf⟩ := Option.bind_eq_some_iff.mp hf
    refine And.intro hg1 (And.intro (Nat.le_of_ble_eq_true rfl) (And.intro (Nat.le_of_ble_eq_true rfl) (Exists.intro (some (.int r2)) (Exists.intro _ (And.intro (l_244 cr2) (?_))))))
    refine And.intro (fun (hc10 : r2 ≤ s.2) => ?_) (fun (hc10 : ¬ (r2 ≤ s.2)) => ?_)
    · rw [if_pos hc10] at hf
      cases hf
      exact hG.2 61 _ [2] _ _ _ rfl hk
    · rw [if_neg hc10] at hf
      refine And.intro (fun (hc9 : s.1 = 0) => ?_) (fun (hc9 : ¬ (s.1 = 0)) => ?_)
      · rw [if_pos hc9] at hf
        cases hf
        exact hG.2 61 _ [2] _ _ _ rfl hk
      · rw [if_neg hc9] at hf
        obtain ⟨r3, cr3, hf⟩ := Option.bind_eq_some_iff.mp hf
        refine And.intro hg1 (And.intro (Nat.le_of_ble_eq_true rfl) (And.intro (Nat.le_of_ble_eq_true rfl) (Exists.intro (some (.int r3)) (Exists.intro _ (And.intro (l_243 cr3) (?_))))))
        obtain ⟨r4, cr4, hf⟩ := Option.bind_eq_some_iff.mp hf
        refine And.intro hg1 (And.intro (Nat.le_of_ble_eq_true rfl) (And.intro (Nat.le_of_ble_eq_true rfl) (Exists.intro (some (.int r4)) (Exists.intro _ (And.intro (l_243 cr4) (?_))))))
        obtain ⟨r5, cr5, hf⟩ := Option.bind_eq_some_iff.mp hf
        refine And.intro (Nat.le_of_ble_eq_true rfl) (And.intro (Nat.le_of_ble_eq_true rfl) (And.intro (Nat.le_of_ble_eq_true rfl) (Exists.intro (some (.int r5)) (Exists.intro _ (And.intro (l_249 cr5) (?_))))))
        obtain ⟨r6, cr6, hf⟩ := Option.bind_eq_some_iff.mp hf
        refine And.intro hg1 (And.intro (Nat.le_of_ble_eq_true rfl) (And.intro (Nat.le_of_ble_eq_true rfl) (Exists.intro (some (.int r6)) (Exists.intro _ (And.intro (l_243 cr6) (?_))))))
        refine And.intro (fun (hc8 : ¬ r6 = 0) => ?_) (fun (hc8 : ¬ (¬ r6 = 0)) => ?_)
        · rw [if_pos hc8] at hf
          refine hG.1 2 45 kb_250_45 _ _ _ rfl ?_
          refine hG.2 46 _ [0, 1, 3] _ _ _ rfl ?_
          exact hj_46 _ _ _ _ _ _ hf hk
        · rw [if_neg hc8] at hf
          refine hG.2 46 _ [0, 1, 3] _ _ _ rfl ?_
          exact hj_46 _ _ _ _ _ _ hf hk
  unfold f_250 at hf
  refine hG.1 0 0 kb_250_0 _ _ _ rfl ?_
  obtain ⟨e11, he_e11, hf⟩ := Option.bind_eq_some_iff.mp hf
  refine hl_4 _ _ _ _ _ he_e11 ?_
  refine hG.1 6 61 kb_250_61 _ _ _ rfl ?_
  obtain ⟨hg12, hf⟩ := pb_gd hf
  cases hf
  exact And.intro (fun _ => hg12) (And.intro rfl rfl)
def f_252_5s (N : Nat) (h : pb_HP) (v0 : Nat) (v1 : Int32) (v2 : Int32) (s : Int32 × Int32) : Option ((Int32 × Int32) ⊕ (Int32)) :=
  if pb_is h v0 11 then (if (pb_I h v0 41) ≤ s.2 then (some (.inr s.1)) else ((pb_R h v0 40).bind fun q2 => (if pb_ar h q2 12 s.2 then ((f_249 N (pb_I h q2 s.2.toNatClampNeg) v1 v2).bind fun r4 => (if r4 = 0 then (some (.inl ((s.1 + 0, s.2 + 1)))) else (some (.inl ((s.1 + 1, s.2 + 1)))))) else none))) else none
/-- PointedBenchModel.manyPrefer -/
def f_252 (N : Nat) (h : pb_HP) (v0 : Nat) (v1 : Int32) (v2 : Int32) : Option (Int32) :=
  (pb_wl (f_252_5s N h v0 v1 v2) N ((0, 0))).bind fun e7 => (some e7)
set_option maxRecDepth 4000 in
theorem l_252 {xs : List Int32} {d : Nat} {N : Nat} {h : pb_HP} {v0 : Nat} {v1 : Int32} {v2 : Int32} {r : Int32} (hf : f_252 N h v0 v1 v2 = some r) : pb_AR xs (d + 4) 252 h [.ref v0, .int v1, .int v2] (some (.int r)) h := by
  intro G hG
  have hc_ : pb_CODE 252 = kc_252 := rfl
  rw [hc_] at hG
  have hl_5 : ∀ (v0 : Nat) (v1 : Int32) (v2 : Int32) (n_ : Nat) (s : Int32 × Int32) (e : Int32), pb_wl (f_252_5s N h v0 v1 v2) n_ s = some e → G 43 [(3, .int e)] [] h → G 5 [(0, .ref v0), (1, .int v1), (2, .int v2), (3, .int s.1), (4, .int s.2)] [] h := by
    intro v0 v1 v2
    refine pb_wl_ind (I := fun (s : Int32 × Int32) => G 5 [(0, .ref v0), (1, .int v1), (2, .int v2), (3, .int s.1), (4, .int s.2)] [] h) (K := fun (e : Int32) => G 43 [(3, .int e)] [] h) (fun s x hf hk => ?_)
    unfold f_252_5s at hf
    refine hG.1 1 5 kb_252_5 _ _ _ rfl ?_
    obtain ⟨hg1, hf⟩ := pb_gd hf
    refine And.intro hg1 (?_)
    refine And.intro (fun (hc6 : (pb_I h v0 41) ≤ s.2) => ?_) (fun (hc6 : ¬ ((pb_I h v0 41) ≤ s.2)) => ?_)
    · rw [if_pos hc6] at hf
      cases hf
      exact hG.2 43 _ [3] _ _ _ rfl hk
    · rw [if_neg hc6] at hf
      obtain ⟨q2, eq2, hf⟩ := Option.bind_eq_some_iff.mp hf
      obtain ⟨hg3, hf⟩ := pb_gd hf
      refine And.intro hg1 (Exists.intro q2 (And.intro eq2 (And.intro hg3 (?_))))
      obtain ⟨r4, cr4, hf⟩ := Option.bind_eq_some_iff.mp hf
      refine And.intro (Nat.le_of_ble_eq_true rfl) (And.intro (Nat.le_of_ble_eq_true rfl) (And.intro (Nat.le_of_ble_eq_true rfl) (Exists.intro (some (.int r4)) (Exists.intro _ (And.intro (l_249 cr4) (?_))))))
      refine And.intro (fun (hc5 : r4 = 0) => ?_) (fun (hc5 : ¬ (r4 = 0)) => ?_)
      · rw [if_pos hc5] at hf
        refine hG.1 2 34 kb_252_34 _ _ _ rfl ?_
        refine hG.1 3 35 kb_252_35 _ _ _ rfl ?_
        cases hf
        exact hk
      · rw [if_neg hc5] at hf
        refine hG.1 3 35 kb_252_35 _ _ _ rfl ?_
        cases hf
        exact hk
  unfold f_252 at hf
  refine hG.1 0 0 kb_252_0 _ _ _ rfl ?_
  obtain ⟨e7, he_e7, hf⟩ := Option.bind_eq_some_iff.mp hf
  refine hl_5 _ _ _ _ _ _ he_e7 ?_
  refine hG.1 4 43 kb_252_43 _ _ _ rfl ?_
  cases hf
  exact And.intro (fun z_ => absurd z_ (by decide)) (And.intro rfl rfl)
def f_260_5s (N : Nat) (h : pb_HP) (v0 : Nat) (v1 : Int32) (v2 : Int32) (s : Int32 × Int32) : Option ((Int32 × Int32) ⊕ (Int32)) :=
  if pb_is h v0 11 then (if (pb_I h v0 25) ≤ s.2 then (some (.inr s.1)) else ((f_202 h v0 s.2).bind fun r2 => (if r2 = 0 then (some (.inl ((s.1 + 0, s.2 + 1)))) else ((f_259 N h v0 s.2 v1 v2).bind fun r3 => (if r3 = 0 then (some (.inl ((s.1 + 0, s.2 + 1)))) else (some (.inl ((s.1 + 1, s.2 + 1))))))))) else none
/-- PointedBenchModel.duelOf -/
def f_260 (N : Nat) (h : pb_HP) (v0 : Nat) (v1 : Int32) (v2 : Int32) : Option (Int32) :=
  (pb_wl (f_260_5s N h v0 v1 v2) N ((0, 0))).bind fun e7 => (some e7)
set_option maxRecDepth 4000 in
theorem l_260 {xs : List Int32} {d : Nat} {N : Nat} {h : pb_HP} {v0 : Nat} {v1 : Int32} {v2 : Int32} {r : Int32} (hf : f_260 N h v0 v1 v2 = some r) : pb_AR xs (d + 4) 260 h [.ref v0, .int v1, .int v2] (some (.int r)) h := by
  intro G hG
  have hc_ : pb_CODE 260 = kc_260 := rfl
  rw [hc_] at hG
  have hl_5 : ∀ (v0 : Nat) (v1 : Int32) (v2 : Int32) (n_ : Nat) (s : Int32 × Int32) (e : Int32), pb_wl (f_260_5s N h v0 v1 v2) n_ s = some e → G 48 [(3, .int e)] [] h → G 5 [(0, .ref v0), (1, .int v1), (2, .int v2), (3, .int s.1), (4, .int s.2)] [] h := by
    intro v0 v1 v2
    refine pb_wl_ind (I := fun (s : Int32 × Int32) => G 5 [(0, .ref v0), (1, .int v1), (2, .int v2), (3, .int s.1), (4, .int s.2)] [] h) (K := fun (e : Int32) => G 48 [(3, .int e)] [] h) (fun s x hf hk => ?_)
    unfold f_260_5s at hf
    refine hG.1 1 5 kb_260_5 _ _ _ rfl ?_
    obtain ⟨hg1, hf⟩ := pb_gd hf
    refine And.intro hg1 (?_)
    refine And.intro (fun (hc6 : (pb_I h v0 25) ≤ s.2) => ?_) (fun (hc6 : ¬ ((pb_I h v0 25) ≤ s.2)) => ?_)
    · rw [if_pos hc6] at hf
      cases hf
      exact hG.2 48 _ [3] _ _ _ rfl hk
    · rw [if_neg hc6] at hf
      obtain ⟨r2, cr2, hf⟩ := Option.bind_eq_some_iff.mp hf
      refine And.intro hg1 (And.intro (Nat.le_of_ble_eq_true rfl) (And.intro (Nat.le_of_ble_eq_true rfl) (Exists.intro (some (.int r2)) (Exists.intro _ (And.intro (l_202 cr2) (?_))))))
      refine And.intro (fun (hc5 : r2 = 0) => ?_) (fun (hc5 : ¬ (r2 = 0)) => ?_)
      · rw [if_pos hc5] at hf
        refine hG.1 2 39 kb_260_39 _ _ _ rfl ?_
        refine hG.1 3 40 kb_260_40 _ _ _ rfl ?_
        cases hf
        exact hk
      · rw [if_neg hc5] at hf
        obtain ⟨r3, cr3, hf⟩ := Option.bind_eq_some_iff.mp hf
        refine And.intro hg1 (And.intro (Nat.le_of_ble_eq_true rfl) (And.intro (Nat.le_of_ble_eq_true rfl) (Exists.intro (some (.int r3)) (Exists.intro _ (And.intro (l_259 cr3) (?_))))))
        refine And.intro (fun (hc4 : r3 = 0) => ?_) (fun (hc4 : ¬ (r3 = 0)) => ?_)
        · rw [if_pos hc4] at hf
          refine hG.1 2 39 kb_260_39 _ _ _ rfl ?_
          refine hG.1 3 40 kb_260_40 _ _ _ rfl ?_
          cases hf
          exact hk
        · rw [if_neg hc4] at hf
          refine hG.1 3 40 kb_260_40 _ _ _ rfl ?_
          cases hf
          exact hk
  unfold f_260 at hf
  refine hG.1 0 0 kb_260_0 _ _ _ rfl ?_
  obtain ⟨e7, he_e7, hf⟩ := Option.bind_eq_some_iff.mp hf
  refine hl_5 _ _ _ _ _ _ he_e7 ?_
  refine hG.1 4 48 kb_260_48 _ _ _ rfl ?_
  cases hf
  exact And.intro (fun z_ => absurd z_ (by decide)) (And.intro rfl rfl)
def f_275_82 (N : Nat) (h : pb_HP) (v0 : Nat) (v2 : Int32) (v3 : Int32) (v4 : Int32) (v5 : Int32) (v6 : Int32) (s0 : Int32) : Option ((Int32 × Int32) ⊕ (Int32)) :=
  (f_169 v3 v6).bind fun r7 => (if ¬ r7 = 0 then (some (.inl ((v4, v6 + 1)))) else (if s0 = 0 then (some (.inl ((v4, v6 + 1)))) else (some (.inl ((v6, v6 + 1))))))
def f_275_43s (N : Nat) (h : pb_HP) (v0 : Nat) (v2 : Int32) (v3 : Int32) (v5 : Int32) (s : Int32 × Int32) : Option ((Int32 × Int32) ⊕ (Int32)) :=
  if pb_is h v0 11 then (if (pb_I h v0 24) ≤ s.2 then (some (.inr s.1)) else (if s.1 = ((-1)) then (f_275_82 N h v0 v2 v3 s.1 v5 s.2 1) else ((f_197 h v0 (2 + s.2)).bind fun r10 => ((f_197 h v0 (2 + s.1)).bind fun r11 => (if r10 ≤ r11 then (f_275_82 N h v0 v2 v3 s.1 v5 s.2 0) else (f_275_82 N h v0 v2 v3 s.1 v5 s.2 1)))))) else none
def f_275_31s (N : Nat) (h : pb_HP) (v0 : Nat) (v2 : Int32) (s : Int32 × Int32 × Int32) : Option ((Int32 × Int32 × Int32) ⊕ (Int32)) :=
  if v2 < s.2.2 then (some (.inr s.2.1)) else ((pb_wl (f_275_43s N h v0 v2 s.1 s.2.2) N (((-1), 0))).bind fun e15 => (some (.inl ((s.1 ||| ((1 : Int32) <<< (e15 &&& 31)), e15, s.2.2 + 1)))))
/-- PointedBenchModel.kindest -/
def f_275 (N : Nat) (h : pb_HP) (v0 : Nat) (v1 : Int32) (v2 : Int32) : Option (Int32 × pb_HP) :=
  if pb_is h v0 11 then ((f_198 N (pb_pI h v0 0 0) v0 v1).bind fun (r2, h3) => (if r2 = 0 then (some (((-1), h3))) else (if pb_is h3 v0 11 then ((f_200 h3 v0 v2).bind fun r5 => (if ¬ r5 = 0 then ((pb_wl (f_275_31s N h3 v0 v2) N ((0, (-1), 0))).bind fun e17 => (some ((e17, h3)))) else (some (((-1), h3))))) else none))) else none
set_option maxRecDepth 4000 in
theorem l_275 {xs : List Int32} {d : Nat} {N : Nat} {h : pb_HP} {v0 : Nat} {v1 : Int32} {v2 : Int32} {r : Int32} {hE : pb_HP} (hf : f_275 N h v0 v1 v2 = some ((r, hE))) : pb_AR xs (d + 4) 275 h [.ref v0, .int v1, .int v2] (some (.int r)) hE := by
  intro G hG
  have hc_ : pb_CODE 275 = kc_275 := rfl
  rw [hc_] at hG
  have hj_82 : ∀ (h : pb_HP) (v0 : Nat) (v2 : Int32) (v3 : Int32) (v4 : Int32) (v5 : Int32) (v6 : Int32) (s0 : Int32) x, f_275_82 N h v0 v2 v3 v4 v5 v6 s0 = some x → pb_kk (fun (s_ : Int32 × Int32) => G 43 [(0, .ref v0), (2, .int v2), (3, .int v3), (4, .int s_.1), (5, .int v5), (6, .int s_.2)] [] h) (fun (e_ : Int32) => G 113 [(0, .ref v0), (2, .int v2), (3, .int v3), (4, .int e_), (5, .int v5)] [] h) x → G 82 [(0, .ref v0), (2, .int v2), (3, .int v3), (4, .int v4), (5, .int v5), (6, .int v6)] [.int s0] h := by
    intro h v0 v2 v3 v4 v5 v6 s0 x hf hk
    unfold f_275_82 at hf
    refine hG.1 7 82 kb_275_82 _ _ _ rfl ?_
    obtain ⟨r7, cr7, hf⟩ := Option.bind_eq_some_iff.mp hf
    refine And.intro (Nat.le_of_ble_eq_true rfl) (And.intro (Nat.le_of_ble_eq_true rfl) (And.intro (Nat.le_of_ble_eq_true rfl) (Exists.intro (some (.int r7)) (Exists.intro _ (And.intro (l_169 cr7) (?_))))))
    refine And.intro (fun (hc9 : ¬ r7 = 0) => ?_) (fun (hc9 : ¬ (¬ r7 = 0)) => ?_)
    · rw [if_pos hc9] at hf
      refine hG.1 8 103 kb_275_103 _ _ _ rfl ?_
      refine hG.1 9 105 kb_275_105 _ _ _ rfl ?_
      cases hf
      exact hG.2 43 _ [0, 1, 2, 3, 4, 5] _ _ _ rfl hk
    · rw [if_neg hc9] at hf
      refine And.intro (fun (hc8 : s0 = 0) => ?_) (fun (hc8 : ¬ (s0 = 0)) => ?_)
      · rw [if_pos hc8] at hf
        refine hG.1 8 103 kb_275_103 _ _ _ rfl ?_
        refine hG.1 9 105 kb_275_105 _ _ _ rfl ?_
        cases hf
        exact hG.2 43 _ [0, 1, 2, 3, 4, 5] _ _ _ rfl hk
      · rw [if_neg hc8] at hf
        refine hG.1 9 105 kb_275_105 _ _ _ rfl ?_
        cases hf
        exact hG.2 43 _ [0, 1, 2, 3, 4, 5] _ _ _ rfl hk
  have hl_43 : ∀ (h : pb_HP) (v0 : Nat) (v2 : Int32) (v3 : Int32) (v5 : Int32) (n_ : Nat) (s : Int32 × Int32) (e : Int32), pb_wl (f_275_43s N h v0 v2 v3 v5) n_ s = some e → G 113 [(0, .ref v0), (2, .int v2), (3, .int v3), (4, .int e), (5, .int v5)] [] h → G 43 [(0, .ref v0), (2, .int v2), (3, .int v3), (4, .int s.1), (5, .int v5), (6, .int s.2)] [] h := by
    intro h v0 v2 v3 v5
    refine pb_wl_ind (I := fun (s : Int32 × Int32) => G 43 [(0, .ref v0), (2, .int v2), (3, .int v3), (4, .int s.1), (5, .int v5), (6, .int s.2)] [] h) (K := fun (e : Int32) => G 113 [(0, .ref v0), (2, .int v2), (3, .int v3), (4, .int e), (5, .int v5)] [] h) (fun s x hf hk => ?_)
    unfold f_275_43s at hf
    refine hG.1 4 43 kb_275_43 _ _ _ rfl ?_
    obtain ⟨hg6, hf⟩ := pb_gd hf
    refine And.intro hg6 (?_)
    refine And.intro (fun (hc14 : (pb_I h v0 24) ≤ s.2) => ?_) (fun (hc14 : ¬ ((pb_I h v0 24) ≤ s.2)) => ?_)
    · rw [if_pos hc14] at hf
      cases hf
      exact hG.2 113 _ [0, 1, 2, 3, 4] _ _ _ rfl hk
    · rw [if_neg hc14] at hf
      refine And.intro (fun (hc13 : s.1 = ((-1))) => ?_) (fun (hc13 : ¬ (s.1 = ((-1)))) => ?_)
      · rw [if_pos hc13] at hf
        refine hG.1 5 77 kb_275_77 _ _ _ rfl ?_
        exact hj_82 _ _ _ _ _ _ _ _ _ hf hk
      · rw [if_neg hc13] at hf
        obtain ⟨r10, cr10, hf⟩ := Option.bind_eq_some_iff.mp hf
        refine And.intro hg6 (And.intro (Nat.le_of_ble_eq_true rfl) (And.intro (Nat.le_of_ble_eq_true rfl) (Exists.intro (some (.int r10)) (Exists.intro _ (And.intro (l_197 cr10) (?_))))))
        obtain ⟨r11, cr11, hf⟩ := Option.bind_eq_some_iff.mp hf
        refine And.intro hg6 (And.intro (Nat.le_of_ble_eq_true rfl) (And.intro (Nat.le_of_ble_eq_true rfl) (Exists.intro (some (.int r11)) (Exists.intro _ (And.intro (l_197 cr11) (?_))))))
        refine And.intro (fun (hc12 : r10 ≤ r11) => ?_) (fun (hc12 : ¬ (r10 ≤ r11)) => ?_)
        · rw [if_pos hc12] at hf
          refine hG.1 6 81 kb_275_81 _ _ _ rfl ?_
          exact hj_82 _ _ _ _ _ _ _ _ _ hf hk
        · rw [if_neg hc12] at hf
          refine hG.1 5 77 kb_275_77 _ _ _ rfl ?_
          exact hj_82 _ _ _ _ _ _ _ _ _ hf hk
  have hl_31 : ∀ (h : pb_HP) (v0 : Nat) (v2 : Int32) (n_ : Nat) (s : Int32 × Int32 × Int32) (e : Int32), pb_wl (f_275_31s N h v0 v2) n_ s = some e → G 126 [(4, .int e)] [] h → G 31 [(0, .ref v0), (2, .int v2), (3, .int s.1), (4, .int s.2.1), (5, .int s.2.2)] [] h := by
    intro h v0 v2
    refine pb_wl_ind (I := fun (s : Int32 × Int32 × Int32) => G 31 [(0, .ref v0), (2, .int v2), (3, .int s.1), (4, .int s.2.1), (5, .int s.2.2)] [] h) (K := fun (e : Int32) => G 126 [(4, .int e)] [] h) (fun s x hf hk => ?_)
    unfold f_275_31s at hf
    refine hG.1 3 31 kb_275_31 _ _ _ rfl ?_
    refine And.intro (fun (hc16 : v2 < s.2.2) => ?_) (fun (hc16 : ¬ (v2 < s.2.2)) => ?_)
    · rw [if_pos hc16] at hf
      cases hf
      exact hG.2 126 _ [3] _ _ _ rfl hk
    · rw [if_neg hc16] at hf
      obtain ⟨e15, he_e15, hf⟩ := Option.bind_eq_some_iff.mp hf
      refine hl_43 _ _ _ _ _ _ _ _ he_e15 ?_
      refine hG.1 10 113 kb_275_113 _ _ _ rfl ?_
      cases hf
      exact hk
  unfold f_275 at hf
  refine hG.1 0 0 kb_275_0 _ _ _ rfl ?_
  obtain ⟨hg1, hf⟩ := pb_gd hf
  refine And.intro hg1 (?_)
  obtain ⟨⟨r2, h3⟩, cr2, hf⟩ := Option.bind_eq_some_iff.mp hf
  try dsimp only at hf
  refine And.intro hg1 (And.intro (Nat.le_of_ble_eq_true rfl) (And.intro (Nat.le_of_ble_eq_true rfl) (Exists.intro (some (.int r2)) (Exists.intro _ (And.intro (l_198 cr2) (?_))))))
  refine And.intro (fun (hc19 : r2 = 0) => ?_) (fun (hc19 : ¬ (r2 = 0)) => ?_)
  · rw [if_pos hc19] at hf
    refine hG.1 1 21 kb_275_21 _ _ _ rfl ?_
    cases hf
    exact And.intro (fun z_ => absurd z_ (by decide)) (And.intro rfl rfl)
  · rw [if_neg hc19] at hf
    obtain ⟨hg4, hf⟩ := pb_gd hf
    obtain ⟨r5, cr5, hf⟩ := Option.bind_eq_some_iff.mp hf
    refine And.intro hg4 (And.intro (Nat.le_of_ble_eq_true rfl) (And.intro (Nat.le_of_ble_eq_true rfl) (Exists.intro (some (.int r5)) (Exists.intro _ (And.intro (l_200 cr5) (?_))))))
    refine And.intro (fun (hc18 : ¬ r5 = 0) => ?_) (fun (hc18 : ¬ (¬ r5 = 0)) => ?_)
    · rw [if_pos hc18] at hf
      refine hG.1 2 23 kb_275_23 _ _ _ rfl ?_
      obtain ⟨e17, he_e17, hf⟩ := Option.bind_eq_some_iff.mp hf
      refine hG.2 31 _ [0, 2, 3, 4, 5] _ _ _ rfl ?_
      refine hl_31 _ _ _ _ _ _ he_e17 ?_
      refine hG.1 11 126 kb_275_126 _ _ _ rfl ?_
      cases hf
      exact And.intro (fun z_ => absurd z_ (by decide)) (And.intro rfl rfl)
    · rw [if_neg hc18] at hf
      refine hG.1 1 21 kb_275_21 _ _ _ rfl ?_
      cases hf
      exact And.intro (fun z_ => absurd z_ (by decide)) (And.intro rfl rfl)
def f_276_28s (N : Nat) (h : pb_HP) (v0 : Nat) (v2 : Int32) (s : Int32 × Int32) : Option ((Int32 × Int32) ⊕ (Int32)) :=
  if pb_is h v0 11 then (if (pb_I h v0 25) ≤ s.2 then (some (.inr s.1)) else ((pb_R h v0 32).bind fun q7 => (if pb_ar h q7 12 s.2 then (if (pb_I h q7 s.2.toNatClampNeg) ≤ 0 then (some (.inl ((s.1 ||| 0, s.2 + 1)))) else ((f_197 h v0 (2 + v2)).bind fun r9 => (if (10 * r9) < (pb_I h q7 s.2.toNatClampNeg) then (some (.inl ((s.1 ||| 0, s.2 + 1)))) else (some (.inl ((s.1 ||| ((1 : Int32) <<< (s.2 &&& 31)), s.2 + 1))))))) else none))) else none
/-- PointedBenchModel.freed -/
def f_276 (N : Nat) (h : pb_HP) (v0 : Nat) (v1 : Int32) (v2 : Int32) : Option (Int32 × pb_HP) :=
  if pb_is h v0 11 then ((f_198 N (pb_pI h v0 0 0) v0 v1).bind fun (r2, h3) => (if r2 = 0 then (some (((-1), h3))) else (if pb_is h3 v0 11 then ((f_200 h3 v0 v2).bind fun r5 => (if ¬ r5 = 0 then ((pb_wl (f_276_28s N h3 v0 v2) N ((0, 0))).bind fun e13 => (some ((e13, h3)))) else (some (((-1), h3))))) else none))) else none
set_option maxRecDepth 4000 in
theorem l_276 {xs : List Int32} {d : Nat} {N : Nat} {h : pb_HP} {v0 : Nat} {v1 : Int32} {v2 : Int32} {r : Int32} {hE : pb_HP} (hf : f_276 N h v0 v1 v2 = some ((r, hE))) : pb_AR xs (d + 4) 276 h [.ref v0, .int v1, .int v2] (some (.int r)) hE := by
  intro G hG
  have hc_ : pb_CODE 276 = kc_276 := rfl
  rw [hc_] at hG
  have hl_28 : ∀ (h : pb_HP) (v0 : Nat) (v2 : Int32) (n_ : Nat) (s : Int32 × Int32) (e : Int32), pb_wl (f_276_28s N h v0 v2) n_ s = some e → G 84 [(3, .int e)] [] h → G 28 [(0, .ref v0), (2, .int v2), (3, .int s.1), (4, .int s.2)] [] h := by
    intro h v0 v2
    refine pb_wl_ind (I := fun (s : Int32 × Int32) => G 28 [(0, .ref v0), (2, .int v2), (3, .int s.1), (4, .int s.2)] [] h) (K := fun (e : Int32) => G 84 [(3, .int e)] [] h) (fun s x hf hk => ?_)
    unfold f_276_28s at hf
    refine hG.1 3 28 kb_276_28 _ _ _ rfl ?_
    obtain ⟨hg6, hf⟩ := pb_gd hf
    refine And.intro hg6 (?_)
    refine And.intro (fun (hc12 : (pb_I h v0 25) ≤ s.2) => ?_) (fun (hc12 : ¬ ((pb_I h v0 25) ≤ s.2)) => ?_)
    · rw [if_pos hc12] at hf
      cases hf
      exact hG.2 84 _ [2] _ _ _ rfl hk
    · rw [if_neg hc12] at hf
      obtain ⟨q7, eq7, hf⟩ := Option.bind_eq_some_iff.mp hf
      obtain ⟨hg8, hf⟩ := pb_gd hf
      refine And.intro hg6 (Exists.intro q7 (And.intro eq7 (And.intro hg8 (?_))))
      refine And.intro (fun (hc11 : (pb_I h q7 s.2.toNatClampNeg) ≤ 0) => ?_) (fun (hc11 : ¬ ((pb_I h q7 s.2.toNatClampNeg) ≤ 0)) => ?_)
      · rw [if_pos hc11] at hf
        refine hG.1 4 75 kb_276_75 _ _ _ rfl ?_
        refine hG.1 5 76 kb_276_76 _ _ _ rfl ?_
        cases hf
        exact hk
      · rw [if_neg hc11] at hf
        obtain ⟨r9, cr9, hf⟩ := Option.bind_eq_some_iff.mp hf
        refine And.intro hg6 (And.intro (Nat.le_of_ble_eq_true rfl) (And.intro (Nat.le_of_ble_eq_true rfl) (Exists.intro (some (.int r9)) (Exists.intro _ (And.intro (l_197 cr9) (?_))))))
        refine And.intro hg6 (Exists.intro q7 (And.intro eq7 (And.intro hg8 (?_))))
        refine And.intro (fun (hc10 : (10 * r9) < (pb_I h q7 s.2.toNatClampNeg)) => ?_) (fun (hc10 : ¬ ((10 * r9) < (pb_I h q7 s.2.toNatClampNeg))) => ?_)
        · rw [if_pos hc10] at hf
          refine hG.1 4 75 kb_276_75 _ _ _ rfl ?_
          refine hG.1 5 76 kb_276_76 _ _ _ rfl ?_
          cases hf
          exact hk
        · rw [if_neg hc10] at hf
          refine hG.1 5 76 kb_276_76 _ _ _ rfl ?_
          cases hf
          exact hk
  unfold f_276 at hf
  refine hG.1 0 0 kb_276_0 _ _ _ rfl ?_
  obtain ⟨hg1, hf⟩ := pb_gd hf
  refine And.intro hg1 (?_)
  obtain ⟨⟨r2, h3⟩, cr2, hf⟩ := Option.bind_eq_some_iff.mp hf
  try dsimp only at hf
  refine And.intro hg1 (And.intro (Nat.le_of_ble_eq_true rfl) (And.intro (Nat.le_of_ble_eq_true rfl) (Exists.intro (some (.int r2)) (Exists.intro _ (And.intro (l_198 cr2) (?_))))))
  refine And.intro (fun (hc15 : r2 = 0) => ?_) (fun (hc15 : ¬ (r2 = 0)) => ?_)
  · rw [if_pos hc15] at hf
    refine hG.1 1 21 kb_276_21 _ _ _ rfl ?_
    cases hf
    exact And.intro (fun z_ => absurd z_ (by decide)) (And.intro rfl rfl)
  · rw [if_neg hc15] at hf
    obtain ⟨hg4, hf⟩ := pb_gd hf
    obtain ⟨r5, cr5, hf⟩ := Option.bind_eq_some_iff.mp hf
    refine And.intro hg4 (And.intro (Nat.le_of_ble_eq_true rfl) (And.intro (Nat.le_of_ble_eq_true rfl) (Exists.intro (some (.int r5)) (Exists.intro _ (And.intro (l_200 cr5) (?_))))))
    refine And.intro (fun (hc14 : ¬ r5 = 0) => ?_) (fun (hc14 : ¬ (¬ r5 = 0)) => ?_)
    · rw [if_pos hc14] at hf
      refine hG.1 2 23 kb_276_23 _ _ _ rfl ?_
      obtain ⟨e13, he_e13, hf⟩ := Option.bind_eq_some_iff.mp hf
      refine hG.2 28 _ [0, 2, 3, 4] _ _ _ rfl ?_
      refine hl_28 _ _ _ _ _ _ he_e13 ?_
      refine hG.1 6 84 kb_276_84 _ _ _ rfl ?_
      cases hf
      exact And.intro (fun z_ => absurd z_ (by decide)) (And.intro rfl rfl)
    · rw [if_neg hc14] at hf
      refine hG.1 1 21 kb_276_21 _ _ _ rfl ?_
      cases hf
      exact And.intro (fun z_ => absurd z_ (by decide)) (And.intro rfl rfl)
def f_277_38s (N : Nat) (h : pb_HP) (v0 : Nat) (v2 : Int32) (v3 : Int32) (s : Int64 × Int32) : Option ((Int64 × Int32) ⊕ (Int64)) :=
  if pb_is h v0 11 then (if (pb_I h v0 25) ≤ s.2 then (some (.inr s.1)) else ((pb_R h v0 30).bind fun q7 => (if pb_ar h q7 12 v2 then ((f_204 N h v0 s.2 (pb_I h q7 v2.toNatClampNeg)).bind fun r9 => (some (.inl ((s.1 + (Int32.toInt64 r9), s.2 + 1))))) else none))) else none
/-- PointedBenchModel.liked -/
def f_277 (N : Nat) (h : pb_HP) (v0 : Nat) (v1 : Int32) (v2 : Int32) (v3 : Int32) : Option (Int64 × pb_HP) :=
  if pb_is h v0 11 then ((f_198 N (pb_pI h v0 0 0) v0 v1).bind fun (r2, h3) => (if r2 = 0 then (some (((-1), h3))) else (if pb_is h3 v0 11 then ((f_200 h3 v0 v2).bind fun r5 => (if r5 = 0 then (some (((-1), h3))) else (if ¬ (pb_I h3 v0 25) = 0 then ((pb_wl (f_277_38s N h3 v0 v2 v3) N ((0, 0))).bind fun e11 => ((f_233 N e11 (Int32.toInt64 (pb_I h3 v0 25)) v3).bind fun r12 => (some ((r12, h3))))) else (some (((-1), h3)))))) else none))) else none
set_option maxRecDepth 4000 in
theorem l_277 {xs : List Int32} {d : Nat} {N : Nat} {h : pb_HP} {v0 : Nat} {v1 : Int32} {v2 : Int32} {v3 : Int32} {r : Int64} {hE : pb_HP} (hf : f_277 N h v0 v1 v2 v3 = some ((r, hE))) : pb_AR xs (d + 4) 277 h [.ref v0, .int v1, .int v2, .int v3] (some (.long r)) hE := by
  intro G hG
  have hc_ : pb_CODE 277 = kc_277 := rfl
  rw [hc_] at hG
  have hl_38 : ∀ (h : pb_HP) (v0 : Nat) (v2 : Int32) (v3 : Int32) (n_ : Nat) (s : Int64 × Int32) (e : Int64), pb_wl (f_277_38s N h v0 v2 v3) n_ s = some e → G 71 [(0, .ref v0), (3, .int v3), (4, .long e)] [] h → G 38 [(0, .ref v0), (2, .int v2), (3, .int v3), (4, .long s.1), (6, .int s.2)] [] h := by
    intro h v0 v2 v3
    refine pb_wl_ind (I := fun (s : Int64 × Int32) => G 38 [(0, .ref v0), (2, .int v2), (3, .int v3), (4, .long s.1), (6, .int s.2)] [] h) (K := fun (e : Int64) => G 71 [(0, .ref v0), (3, .int v3), (4, .long e)] [] h) (fun s x hf hk => ?_)
    unfold f_277_38s at hf
    refine hG.1 3 38 kb_277_38 _ _ _ rfl ?_
    obtain ⟨hg6, hf⟩ := pb_gd hf
    refine And.intro hg6 (?_)
    refine And.intro (fun (hc10 : (pb_I h v0 25) ≤ s.2) => ?_) (fun (hc10 : ¬ ((pb_I h v0 25) ≤ s.2)) => ?_)
    · rw [if_pos hc10] at hf
      cases hf
      exact hG.2 71 _ [0, 2, 3] _ _ _ rfl hk
    · rw [if_neg hc10] at hf
      obtain ⟨q7, eq7, hf⟩ := Option.bind_eq_some_iff.mp hf
      obtain ⟨hg8, hf⟩ := pb_gd hf
      refine And.intro hg6 (Exists.intro q7 (And.intro eq7 (And.intro hg8 (?_))))
      obtain ⟨r9, cr9, hf⟩ := Option.bind_eq_some_iff.mp hf
      refine And.intro hg6 (And.intro (Nat.le_of_ble_eq_true rfl) (And.intro (Nat.le_of_ble_eq_true rfl) (Exists.intro (some (.int r9)) (Exists.intro _ (And.intro (l_204 cr9) (?_))))))
      cases hf
      exact hk
  unfold f_277 at hf
  refine hG.1 0 0 kb_277_0 _ _ _ rfl ?_
  obtain ⟨hg1, hf⟩ := pb_gd hf
  refine And.intro hg1 (?_)
  obtain ⟨⟨r2, h3⟩, cr2, hf⟩ := Option.bind_eq_some_iff.mp hf
  try dsimp only at hf
  refine And.intro hg1 (And.intro (Nat.le_of_ble_eq_true rfl) (And.intro (Nat.le_of_ble_eq_true rfl) (Exists.intro (some (.int r2)) (Exists.intro _ (And.intro (l_198 cr2) (?_))))))
  refine And.intro (fun (hc15 : r2 = 0) => ?_) (fun (hc15 : ¬ (r2 = 0)) => ?_)
  · rw [if_pos hc15] at hf
    refine hG.1 1 28 kb_277_28 _ _ _ rfl ?_
    cases hf
    exact And.intro rfl rfl
  · rw [if_neg hc15] at hf
    obtain ⟨hg4, hf⟩ := pb_gd hf
    obtain ⟨r5, cr5, hf⟩ := Option.bind_eq_some_iff.mp hf
    refine And.intro hg4 (And.intro (Nat.le_of_ble_eq_true rfl) (And.intro (Nat.le_of_ble_eq_true rfl) (Exists.intro (some (.int r5)) (Exists.intro _ (And.intro (l_200 cr5) (?_))))))
    refine And.intro (fun (hc14 : r5 = 0) => ?_) (fun (hc14 : ¬ (r5 = 0)) => ?_)
    · rw [if_pos hc14] at hf
      refine hG.1 1 28 kb_277_28 _ _ _ rfl ?_
      cases hf
      exact And.intro rfl rfl
    · rw [if_neg hc14] at hf
      refine And.intro hg4 (?_)
      refine And.intro (fun (hc13 : ¬ (pb_I h3 v0 25) = 0) => ?_) (fun (hc13 : ¬ (¬ (pb_I h3 v0 25) = 0)) => ?_)
      · rw [if_pos hc13] at hf
        refine hG.1 2 32 kb_277_32 _ _ _ rfl ?_
        obtain ⟨e11, he_e11, hf⟩ := Option.bind_eq_some_iff.mp hf
        refine hG.2 38 _ [0, 2, 3, 4, 5] _ _ _ rfl ?_
        refine hl_38 _ _ _ _ _ _ _ he_e11 ?_
        refine hG.1 4 71 kb_277_71 _ _ _ rfl ?_
        refine And.intro hg4 (?_)
        obtain ⟨r12, cr12, hf⟩ := Option.bind_eq_some_iff.mp hf
        refine And.intro (Nat.le_of_ble_eq_true rfl) (And.intro (Nat.le_of_ble_eq_true rfl) (And.intro (Nat.le_of_ble_eq_true rfl) (Exists.intro (some (.long r12)) (Exists.intro _ (And.intro (l_233 cr12) (?_))))))
        cases hf
        exact And.intro rfl rfl
      · rw [if_neg hc13] at hf
        refine hG.1 1 28 kb_277_28 _ _ _ rfl ?_
        cases hf
        exact And.intro rfl rfl
def f_278_37s (N : Nat) (h : pb_HP) (v0 : Nat) (v2 : Int32) (v3 : Int32) (s : Int32 × Int32) : Option ((Int32 × Int32) ⊕ (Int32)) :=
  if 6 ≤ s.2 then (some (.inr s.1)) else (if pb_is h v0 11 then ((pb_R h v0 34).bind fun q8 => (if pb_ar h q8 12 ((6 * v2) + s.2) then (if pb_ar h q8 12 ((6 * v3) + s.2) then (if 0 ≤ ((pb_I h q8 ((6 * v2) + s.2).toNatClampNeg) - (pb_I h q8 ((6 * v3) + s.2).toNatClampNeg)) then (some (.inl ((s.1 + ((pb_I h q8 ((6 * v2) + s.2).toNatClampNeg) - (pb_I h q8 ((6 * v3) + s.2).toNatClampNeg)), s.2 + 1)))) else (some (.inl ((s.1 + (-((pb_I h q8 ((6 * v2) + s.2).toNatClampNeg) - (pb_I h q8 ((6 * v3) + s.2).toNatClampNeg))), s.2 + 1))))) else none) else none)) else none)
/-- PointedBenchModel.unlike -/
def f_278 (N : Nat) (h : pb_HP) (v0 : Nat) (v1 : Int32) (v2 : Int32) (v3 : Int32) : Option (Int32 × pb_HP) :=
  if pb_is h v0 11 then ((f_198 N (pb_pI h v0 0 0) v0 v1).bind fun (r2, h3) => (if r2 = 0 then (some (((-1), h3))) else (if pb_is h3 v0 11 then ((f_201 h3 v0 v2).bind fun r5 => (if r5 = 0 then (some (((-1), h3))) else ((f_201 h3 v0 v3).bind fun r6 => (if ¬ r6 = 0 then ((pb_wl (f_278_37s N h3 v0 v2 v3) N ((0, 0))).bind fun e13 => (some ((e13, h3)))) else (some (((-1), h3))))))) else none))) else none
set_option maxRecDepth 4000 in
theorem l_278 {xs : List Int32} {d : Nat} {N : Nat} {h : pb_HP} {v0 : Nat} {v1 : Int32} {v2 : Int32} {v3 : Int32} {r : Int32} {hE : pb_HP} (hf : f_278 N h v0 v1 v2 v3 = some ((r, hE))) : pb_AR xs (d + 4) 278 h [.ref v0, .int v1, .int v2, .int v3] (some (.int r)) hE := by
  intro G hG
  have hc_ : pb_CODE 278 = kc_278 := rfl
  rw [hc_] at hG
  have hl_37 : ∀ (h : pb_HP) (v0 : Nat) (v2 : Int32) (v3 : Int32) (n_ : Nat) (s : Int32 × Int32) (e : Int32), pb_wl (f_278_37s N h v0 v2 v3) n_ s = some e → G 95 [(4, .int e)] [] h → G 37 [(0, .ref v0), (2, .int v2), (3, .int v3), (4, .int s.1), (5, .int s.2)] [] h := by
    intro h v0 v2 v3
    refine pb_wl_ind (I := fun (s : Int32 × Int32) => G 37 [(0, .ref v0), (2, .int v2), (3, .int v3), (4, .int s.1), (5, .int s.2)] [] h) (K := fun (e : Int32) => G 95 [(4, .int e)] [] h) (fun s x hf hk => ?_)
    unfold f_278_37s at hf
    refine hG.1 3 37 kb_278_37 _ _ _ rfl ?_
    refine And.intro (fun (hc12 : 6 ≤ s.2) => ?_) (fun (hc12 : ¬ (6 ≤ s.2)) => ?_)
    · rw [if_pos hc12] at hf
      cases hf
      exact hG.2 95 _ [3] _ _ _ rfl hk
    · rw [if_neg hc12] at hf
      obtain ⟨hg7, hf⟩ := pb_gd hf
      obtain ⟨q8, eq8, hf⟩ := Option.bind_eq_some_iff.mp hf
      obtain ⟨hg9, hf⟩ := pb_gd hf
      obtain ⟨hg10, hf⟩ := pb_gd hf
      refine And.intro hg7 (Exists.intro q8 (And.intro eq8 (And.intro hg9 (And.intro hg7 (Exists.intro q8 (And.intro eq8 (And.intro hg10 (?_))))))))
      refine And.intro (fun (hc11 : 0 ≤ ((pb_I h q8 ((6 * v2) + s.2).toNatClampNeg) - (pb_I h q8 ((6 * v3) + s.2).toNatClampNeg))) => ?_) (fun (hc11 : ¬ (0 ≤ ((pb_I h q8 ((6 * v2) + s.2).toNatClampNeg) - (pb_I h q8 ((6 * v3) + s.2).toNatClampNeg)))) => ?_)
      · rw [if_pos hc11] at hf
        refine hG.1 4 84 kb_278_84 _ _ _ rfl ?_
        refine hG.1 5 86 kb_278_86 _ _ _ rfl ?_
        cases hf
        exact hG.2 37 _ [0, 1, 2, 3, 4] _ _ _ rfl hk
      · rw [if_neg hc11] at hf
        refine hG.1 5 86 kb_278_86 _ _ _ rfl ?_
        cases hf
        exact hG.2 37 _ [0, 1, 2, 3, 4] _ _ _ rfl hk
  unfold f_278 at hf
  refine hG.1 0 0 kb_278_0 _ _ _ rfl ?_
  obtain ⟨hg1, hf⟩ := pb_gd hf
  refine And.intro hg1 (?_)
  obtain ⟨⟨r2, h3⟩, cr2, hf⟩ := Option.bind_eq_some_iff.mp hf
  try dsimp only at hf
  refine And.intro hg1 (And.intro (Nat.le_of_ble_eq_true rfl) (And.intro (Nat.le_of_ble_eq_true rfl) (Exists.intro (some (.int r2)) (Exists.intro _ (And.intro (l_198 cr2) (?_))))))
  refine And.intro (fun (hc16 : r2 = 0) => ?_) (fun (hc16 : ¬ (r2 = 0)) => ?_)
  · rw [if_pos hc16] at hf
    refine hG.1 1 29 kb_278_29 _ _ _ rfl ?_
    cases hf
    exact And.intro (fun z_ => absurd z_ (by decide)) (And.intro rfl rfl)
  · rw [if_neg hc16] at hf
    obtain ⟨hg4, hf⟩ := pb_gd hf
    obtain ⟨r5, cr5, hf⟩ := Option.bind_eq_some_iff.mp hf
    refine And.intro hg4 (And.intro (Nat.le_of_ble_eq_true rfl) (And.intro (Nat.le_of_ble_eq_true rfl) (Exists.intro (some (.int r5)) (Exists.intro _ (And.intro (l_201 cr5) (?_))))))
    refine And.intro (fun (hc15 : r5 = 0) => ?_) (fun (hc15 : ¬ (r5 = 0)) => ?_)
    · rw [if_pos hc15] at hf
      refine hG.1 1 29 kb_278_29 _ _ _ rfl ?_
      cases hf
      exact And.intro (fun z_ => absurd z_ (by decide)) (And.intro rfl rfl)
    · rw [if_neg hc15] at hf
      obtain ⟨r6, cr6, hf⟩ := Option.bind_eq_some_iff.mp hf
      refine And.intro hg4 (And.intro (Nat.le_of_ble_eq_true rfl) (And.intro (Nat.le_of_ble_eq_true rfl) (Exists.intro (some (.int r6)) (Exists.intro _ (And.intro (l_201 cr6) (?_))))))
      refine And.intro (fun (hc14 : ¬ r6 = 0) => ?_) (fun (hc14 : ¬ (¬ r6 = 0)) => ?_)
      · rw [if_pos hc14] at hf
        refine hG.1 2 31 kb_278_31 _ _ _ rfl ?_
        obtain ⟨e13, he_e13, hf⟩ := Option.bind_eq_some_iff.mp hf
        refine hG.2 37 _ [0, 2, 3, 4, 5] _ _ _ rfl ?_
        refine hl_37 _ _ _ _ _ _ _ he_e13 ?_
        refine hG.1 6 95 kb_278_95 _ _ _ rfl ?_
        cases hf
        exact And.intro (fun z_ => absurd z_ (by decide)) (And.intro rfl rfl)
      · rw [if_neg hc14] at hf
        refine hG.1 1 29 kb_278_29 _ _ _ rfl ?_
        cases hf
        exact And.intro (fun z_ => absurd z_ (by decide)) (And.intro rfl rfl)
def f_279_5s (N : Nat) (h : pb_HP) (v0 : Nat) (v1 : Int32) (v2 : Int32) (s : Int32 × Int32) : Option ((Int32 × Int32) ⊕ (Int32)) :=
  if pb_is h v0 11 then (if (pb_I h v0 25) ≤ s.2 then (some (.inr s.1)) else ((f_202 h v0 s.2).bind fun r2 => (if r2 = 0 then (some (.inl ((s.1 + 0, s.2 + 1)))) else ((f_206 N h v0 s.2 v2).bind fun r3 => (if ¬ r3 = v1 then (some (.inl ((s.1 + 0, s.2 + 1)))) else (some (.inl ((s.1 + 1, s.2 + 1))))))))) else none
/-- PointedBenchModel.pointed -/
def f_279 (N : Nat) (h : pb_HP) (v0 : Nat) (v1 : Int32) (v2 : Int32) : Option (Int32) :=
  (pb_wl (f_279_5s N h v0 v1 v2) N ((0, 0))).bind fun e7 => (some e7)
set_option maxRecDepth 4000 in
theorem l_279 {xs : List Int32} {d : Nat} {N : Nat} {h : pb_HP} {v0 : Nat} {v1 : Int32} {v2 : Int32} {r : Int32} (hf : f_279 N h v0 v1 v2 = some r) : pb_AR xs (d + 4) 279 h [.ref v0, .int v1, .int v2] (some (.int r)) h := by
  intro G hG
  have hc_ : pb_CODE 279 = kc_279 := rfl
  rw [hc_] at hG
  have hl_5 : ∀ (v0 : Nat) (v1 : Int32) (v2 : Int32) (n_ : Nat) (s : Int32 × Int32) (e : Int32), pb_wl (f_279_5s N h v0 v1 v2) n_ s = some e → G 48 [(3, .int e)] [] h → G 5 [(0, .ref v0), (1, .int v1), (2, .int v2), (3, .int s.1), (4, .int s.2)] [] h := by
    intro v0 v1 v2
    refine pb_wl_ind (I := fun (s : Int32 × Int32) => G 5 [(0, .ref v0), (1, .int v1), (2, .int v2), (3, .int s.1), (4, .int s.2)] [] h) (K := fun (e : Int32) => G 48 [(3, .int e)] [] h) (fun s x hf hk => ?_)
    unfold f_279_5s at hf
    refine hG.1 1 5 kb_279_5 _ _ _ rfl ?_
    obtain ⟨hg1, hf⟩ := pb_gd hf
    refine And.intro hg1 (?_)
    refine And.intro (fun (hc6 : (pb_I h v0 25) ≤ s.2) => ?_) (fun (hc6 : ¬ ((pb_I h v0 25) ≤ s.2)) => ?_)
    · rw [if_pos hc6] at hf
      cases hf
      exact hG.2 48 _ [3] _ _ _ rfl hk
    · rw [if_neg hc6] at hf
      obtain ⟨r2, cr2, hf⟩ := Option.bind_eq_some_iff.mp hf
      refine And.intro hg1 (And.intro (Nat.le_of_ble_eq_true rfl) (And.intro (Nat.le_of_ble_eq_true rfl) (Exists.intro (some (.int r2)) (Exists.intro _ (And.intro (l_202 cr2) (?_))))))
      refine And.intro (fun (hc5 : r2 = 0) => ?_) (fun (hc5 : ¬ (r2 = 0)) => ?_)
      · rw [if_pos hc5] at hf
        refine hG.1 2 39 kb_279_39 _ _ _ rfl ?_
        refine hG.1 3 40 kb_279_40 _ _ _ rfl ?_
        cases hf
        exact hk
      · rw [if_neg hc5] at hf
        obtain ⟨r3, cr3, hf⟩ := Option.bind_eq_some_iff.mp hf
        refine And.intro hg1 (And.intro (Nat.le_of_ble_eq_true rfl) (And.intro (Nat.le_of_ble_eq_true rfl) (Exists.intro (some (.int r3)) (Exists.intro _ (And.intro (l_206 cr3) (?_))))))
        refine And.intro (fun (hc4 : ¬ r3 = v1) => ?_) (fun (hc4 : ¬ (¬ r3 = v1)) => ?_)
        · rw [if_pos hc4] at hf
          refine hG.1 2 39 kb_279_39 _ _ _ rfl ?_
          refine hG.1 3 40 kb_279_40 _ _ _ rfl ?_
          cases hf
          exact hk
        · rw [if_neg hc4] at hf
          refine hG.1 3 40 kb_279_40 _ _ _ rfl ?_
          cases hf
          exact hk
  unfold f_279 at hf
  refine hG.1 0 0 kb_279_0 _ _ _ rfl ?_
  obtain ⟨e7, he_e7, hf⟩ := Option.bind_eq_some_iff.mp hf
  refine hl_5 _ _ _ _ _ _ he_e7 ?_
  refine hG.1 4 48 kb_279_48 _ _ _ rfl ?_
  cases hf
  exact And.intro (fun z_ => absurd z_ (by decide)) (And.intro rfl rfl)
/-- PointedBenchModel.wings -/
def f_292 (N : Nat) (h : pb_HP) (v0 : Nat) (v1 : Int32) (v2 : Int32) : Option (Int32 × pb_HP) :=
  if pb_is h v0 11 then ((f_198 N (pb_pI h v0 0 0) v0 v1).bind fun (r2, h3) => (if r2 = 0 then (some (((-1), h3))) else (if pb_is h3 v0 11 then ((f_168 v2 ((-1)) ((pb_I h3 v0 25) - 1)).bind fun r5 => (if ¬ r5 = 0 then ((f_288 N h3 v0).bind fun r6 => ((f_291 N h3 v0 r6).bind fun (r7, h8) => (if ¬ v2 = ((-1)) then (if pb_is h8 v0 11 then ((pb_R h8 v0 43).bind fun q10 => (if pb_ar h8 q10 12 v2 then (some ((pb_I h8 q10 v2.toNatClampNeg, h8))) else none)) else none) else (some ((r7, h8)))))) else (some (((-1), h3))))) else none))) else none
set_option maxRecDepth 4000 in
theorem l_292 {xs : List Int32} {d : Nat} {N : Nat} {h : pb_HP} {v0 : Nat} {v1 : Int32} {v2 : Int32} {r : Int32} {hE : pb_HP} (hf : f_292 N h v0 v1 v2 = some ((r, hE))) : pb_AR xs (d + 4) 292 h [.ref v0, .int v1, .int v2] (some (.int r)) hE := by
  intro G hG
  have hc_ : pb_CODE 292 = kc_292 := rfl
  rw [hc_] at hG
  unfold f_292 at hf
  refine hG.1 0 0 kb_292_0 _ _ _ rfl ?_
  obtain ⟨hg1, hf⟩ := pb_gd hf
  refine And.intro hg1 (?_)
  obtain ⟨⟨r2, h3⟩, cr2, hf⟩ := Option.bind_eq_some_iff.mp hf
  try dsimp only at hf
  refine And.intro hg1 (And.intro (Nat.le_of_ble_eq_true rfl) (And.intro (Nat.le_of_ble_eq_true rfl) (Exists.intro (some (.int r2)) (Exists.intro _ (And.intro (l_198 cr2) (?_))))))
  refine And.intro (fun (hc14 : r2 = 0) => ?_) (fun (hc14 : ¬ (r2 = 0)) => ?_)
  · rw [if_pos hc14] at hf
    refine hG.1 1 27 kb_292_27 _ _ _ rfl ?_
    cases hf
    exact And.intro (fun z_ => absurd z_ (by decide)) (And.intro rfl rfl)
  · rw [if_neg hc14] at hf
    obtain ⟨hg4, hf⟩ := pb_gd hf
    refine And.intro hg4 (?_)
    obtain ⟨r5, cr5, hf⟩ := Option.bind_eq_some_iff.mp hf
    refine And.intro (Nat.le_of_ble_eq_true rfl) (And.intro (Nat.le_of_ble_eq_true rfl) (And.intro (Nat.le_of_ble_eq_true rfl) (Exists.intro (some (.int r5)) (Exists.intro _ (And.intro (l_168 cr5) (?_))))))
    refine And.intro (fun (hc13 : ¬ r5 = 0) => ?_) (fun (hc13 : ¬ (¬ r5 = 0)) => ?_)
    · rw [if_pos hc13] at hf
      refine hG.1 2 29 kb_292_29 _ _ _ rfl ?_
      obtain ⟨r6, cr6, hf⟩ := Option.bind_eq_some_iff.mp hf
      refine And.intro hg4 (And.intro (Nat.le_of_ble_eq_true rfl) (And.intro (Nat.le_of_ble_eq_true rfl) (Exists.intro (some (.int r6)) (Exists.intro _ (And.intro (l_288 cr6) (?_))))))
      obtain ⟨⟨r7, h8⟩, cr7, hf⟩ := Option.bind_eq_some_iff.mp hf
      try dsimp only at hf
      refine And.intro hg4 (And.intro (Nat.le_of_ble_eq_true rfl) (And.intro (Nat.le_of_ble_eq_true rfl) (Exists.intro (some (.int r7)) (Exists.intro _ (And.intro (l_291 cr7) (?_))))))
      refine And.intro (fun (hc12 : ¬ v2 = ((-1))) => ?_) (fun (hc12 : ¬ (¬ v2 = ((-1)))) => ?_)
      · rw [if_pos hc12] at hf
        refine hG.1 3 47 kb_292_47 _ _ _ rfl ?_
        obtain ⟨hg9, hf⟩ := pb_gd hf
        obtain ⟨q10, eq10, hf⟩ := Option.bind_eq_some_iff.mp hf
        obtain ⟨hg11, hf⟩ := pb_gd hf
        refine And.intro hg9 (Exists.intro q10 (And.intro eq10 (And.intro hg11 (?_))))
        refine hG.1 4 53 kb_292_53 _ _ _ rfl ?_
        cases hf
        exact And.intro (fun z_ => absurd z_ (by decide)) (And.intro rfl rfl)
      · rw [if_neg hc12] at hf
        refine hG.1 4 53 kb_292_53 _ _ _ rfl ?_
        cases hf
        exact And.intro (fun z_ => absurd z_ (by decide)) (And.intro rfl rfl)
    · rw [if_neg hc13] at hf
      refine hG.1 1 27 kb_292_27 _ _ _ rfl ?_
      cases hf
      exact And.intro (fun z_ => absurd z_ (by decide)) (And.intro rfl rfl)
/-- Course.doDeed -/
def f_30 (N : Nat) (h : pb_HP) (v0 : Nat) (v1 : Nat) (v2 : Int32) : Option (Int32 × pb_HP) :=
  if pb_is h v1 4 then ((pb_R h v1 1).bind fun q2 => (if pb_ar h q2 12 v2 then ((pb_R h v1 2).bind fun q4 => (if pb_ar h q4 12 v2 then ((pb_R h v1 3).bind fun q6 => (if pb_ar h q6 12 v2 then ((pb_R h v1 4).bind fun q8 => (if pb_ar h q8 12 v2 then (if pb_is h v0 1 then ((f_31 N h v0 (pb_I h q2 v2.toNatClampNeg) (pb_I h q4 v2.toNatClampNeg) (pb_I h q6 v2.toNatClampNeg) (pb_I h q8 v2.toNatClampNeg)).bind fun (r11, h12) => (if r11 = 0 ∨ r11 = 1 then (some ((r11, h12))) else none)) else none) else none)) else none)) else none)) else none)) else none
set_option maxRecDepth 4000 in
theorem l_30 {xs : List Int32} {d : Nat} {N : Nat} {h : pb_HP} {v0 : Nat} {v1 : Nat} {v2 : Int32} {r : Int32} {hE : pb_HP} (hf : f_30 N h v0 v1 v2 = some ((r, hE))) : pb_AR xs (d + 5) 30 h [.ref v0, .ref v1, .int v2] (some (.int r)) hE := by
  intro G hG
  have hc_ : pb_CODE 30 = kc_30 := rfl
  rw [hc_] at hG
  unfold f_30 at hf
  refine hG.1 0 0 kb_30_0 _ _ _ rfl ?_
  obtain ⟨hg1, hf⟩ := pb_gd hf
  obtain ⟨q2, eq2, hf⟩ := Option.bind_eq_some_iff.mp hf
  obtain ⟨hg3, hf⟩ := pb_gd hf
  obtain ⟨q4, eq4, hf⟩ := Option.bind_eq_some_iff.mp hf
  obtain ⟨hg5, hf⟩ := pb_gd hf
  obtain ⟨q6, eq6, hf⟩ := Option.bind_eq_some_iff.mp hf
  obtain ⟨hg7, hf⟩ := pb_gd hf
  obtain ⟨q8, eq8, hf⟩ := Option.bind_eq_some_iff.mp hf
  obtain ⟨hg9, hf⟩ := pb_gd hf
  obtain ⟨hg10, hf⟩ := pb_gd hf
  refine And.intro hg1 (Exists.intro q2 (And.intro eq2 (And.intro hg3 (And.intro hg1 (Exists.intro q4 (And.intro eq4 (And.intro hg5 (And.intro hg1 (Exists.intro q6 (And.intro eq6 (And.intro hg7 (And.intro hg1 (Exists.intro q8 (And.intro eq8 (And.intro hg9 (?_))))))))))))))))
  obtain ⟨⟨r11, h12⟩, cr11, hf⟩ := Option.bind_eq_some_iff.mp hf
  try dsimp only at hf
  refine And.intro hg10 (And.intro (Nat.le_of_ble_eq_true rfl) (And.intro (Nat.le_of_ble_eq_true rfl) (Exists.intro (some (.int r11)) (Exists.intro _ (And.intro (l_31 cr11) (?_))))))
  obtain ⟨hg13, hf⟩ := pb_gd hf
  cases hf
  exact And.intro (fun _ => hg13) (And.intro rfl rfl)
/-- Course.told -/
def f_37 (N : Nat) (h : pb_HP) (v0 : Nat) (v1 : Int32) : Option (Int32 × pb_HP) :=
  if 0 ≤ v1 then (if v1 < 100 then (if (v1 / 10) = 0 then (if pb_is h v0 1 then ((f_38 N h v0 (v1 - v1 / 10 * 10)).bind fun (r3, h4) => (some ((r3, h4)))) else none) else if (v1 / 10) = 1 then (if pb_is h v0 1 then ((pb_R h v0 0).bind fun q7 => (if pb_is h q7 0 then ((f_3 h q7 (v1 - v1 / 10 * 10)).bind fun r9 => (if r9 = 0 then (some (((-1), h))) else ((pb_R h q7 3).bind fun q10 => (if pb_ar h q10 12 (v1 - v1 / 10 * 10) then (some ((pb_I h q10 (v1 - v1 / 10 * 10).toNatClampNeg, h))) else none)))) else none)) else none) else if (v1 / 10) = 2 then (if pb_is h v0 1 then ((pb_R h v0 0).bind fun q15 => (if pb_is h q15 0 then ((f_4 h q15 (v1 - v1 / 10 * 10)).bind fun r17 => (if r17 = 0 then (some (((-1), h))) else ((pb_R h q15 4).bind fun q18 => (if pb_ar h q18 12 (v1 - v1 / 10 * 10) then (some ((pb_I h q18 (v1 - v1 / 10 * 10).toNatClampNeg, h))) else none)))) else none)) else none) else if (v1 / 10) = 3 then (if pb_is h v0 1 then ((pb_R h v0 0).bind fun q23 => (if pb_is h q23 0 then ((f_4 h q23 (v1 - v1 / 10 * 10)).bind fun r25 => (if r25 = 0 then (some (((-1), h))) else ((pb_R h q23 5).bind fun q26 => (if pb_ar h q26 12 (v1 - v1 / 10 * 10) then (some ((pb_I h q26 (v1 - v1 / 10 * 10).toNatClampNeg, h))) else none)))) else none)) else none) else if (v1 / 10) = 4 then (if pb_is h v0 1 then ((pb_R h v0 0).bind fun q31 => (if pb_is h q31 0 then ((f_4 h q31 (v1 - v1 / 10 * 10)).bind fun r33 => (if r33 = 0 then (some (((-1), h))) else ((pb_R h q31 6).bind fun q34 => (if pb_ar h q34 12 (v1 - v1 / 10 * 10) then (some ((pb_I h q34 (v1 - v1 / 10 * 10).toNatClampNeg, h))) else none)))) else none)) else none) else if (v1 / 10) = 5 then (if pb_is h v0 1 then ((pb_R h v0 0).bind fun q39 => (if pb_is h q39 0 then ((f_4 h q39 (v1 - v1 / 10 * 10)).bind fun r41 => (if r41 = 0 then (some (((-1), h))) else ((f_11 N h q39 (v1 - v1 / 10 * 10) 63).bind fun r42 => (some ((r42, h)))))) else none)) else none) else (some (((-1), h)))) else (if pb_is h v0 1 then ((pb_R h v0 0).bind fun q45 => (if pb_is h q45 0 then ((f_6 h q45 (v1 - 100)).bind fun r47 => (some ((r47, h)))) else none)) else none)) else (some (((-1), h)))
set_option maxRecDepth 4000 in
theorem l_37 {xs : List Int32} {d : Nat} {N : Nat} {h : pb_HP} {v0 : Nat} {v1 : Int32} {r : Int32} {hE : pb_HP} (hf : f_37 N h v0 v1 = some ((r, hE))) : pb_AR xs (d + 5) 37 h [.ref v0, .int v1] (some (.int r)) hE := by
  intro G hG
  have hc_ : pb_CODE 37 = kc_37 := rfl
  rw [hc_] at hG
  unfold f_37 at hf
  refine hG.1 0 0 kb_37_0 _ _ _ rfl ?_
  refine And.intro (fun (hc49 : 0 ≤ v1) => ?_) (fun (hc49 : ¬ (0 ≤ v1)) => ?_)
  · rw [if_pos hc49] at hf
    refine hG.1 1 6 kb_37_6 _ _ _ rfl ?_
    refine And.intro (fun (hc48 : v1 < 100) => ?_) (fun (hc48 : ¬ (v1 < 100)) => ?_)
    · rw [if_pos hc48] at hf
      refine hG.1 2 24 kb_37_24 _ _ _ rfl ?_
      refine And.intro (by decide) (And.intro (by decide) (?_))
      by_cases hc1 : (v1 / 10) = 0
      · rw [if_pos hc1] at hf
        refine pb_gs (G := G) (tgt := 72) (show pb_swt 33 171 0 5 #[39, 45, 70, 95, 120, 145] (v1 / 10) = 72 by rw [hc1]; decide) ?_
        refine hG.1 3 72 kb_37_72 _ _ _ rfl ?_
        obtain ⟨hg2, hf⟩ := pb_gd hf
        obtain ⟨⟨r3, h4⟩, cr3, hf⟩ := Option.bind_eq_some_iff.mp hf
        try dsimp only at hf
        refine And.intro hg2 (And.intro (Nat.le_of_ble_eq_true rfl) (And.intro (Nat.le_of_ble_eq_true rfl) (Exists.intro (some (.int r3)) (Exists.intro _ (And.intro (l_38 cr3) (?_))))))
        cases hf
        exact And.intro (fun z_ => absurd z_ (by decide)) (And.intro rfl rfl)
      rw [if_neg hc1] at hf
      by_cases hc5 : (v1 / 10) = 1
      · rw [if_pos hc5] at hf
        refine pb_gs (G := G) (tgt := 78) (show pb_swt 33 171 0 5 #[39, 45, 70, 95, 120, 145] (v1 / 10) = 78 by rw [hc5]; decide) ?_
        refine hG.1 4 78 kb_37_78 _ _ _ rfl ?_
        obtain ⟨hg6, hf⟩ := pb_gd hf
        obtain ⟨q7, eq7, hf⟩ := Option.bind_eq_some_iff.mp hf
        obtain ⟨hg8, hf⟩ := pb_gd hf
        refine And.intro hg6 (Exists.intro q7 (And.intro eq7 (?_)))
        obtain ⟨r9, cr9, hf⟩ := Option.bind_eq_some_iff.mp hf
        refine And.intro hg8 (And.intro (Nat.le_of_ble_eq_true rfl) (And.intro (Nat.le_of_ble_eq_true rfl) (Exists.intro (some (.int r9)) (Exists.intro _ (And.intro (l_3 cr9) (?_))))))
        refine And.intro (fun (hc12 : r9 = 0) => ?_) (fun (hc12 : ¬ (r9 = 0)) => ?_)
        · rw [if_pos hc12] at hf
          refine hG.1 5 101 kb_37_101 _ _ _ rfl ?_
          refine hG.1 6 102 kb_37_102 _ _ _ rfl ?_
          cases hf
          exact And.intro (fun z_ => absurd z_ (by decide)) (And.intro rfl rfl)
        · rw [if_neg hc12] at hf
          obtain ⟨q10, eq10, hf⟩ := Option.bind_eq_some_iff.mp hf
          obtain ⟨hg11, hf⟩ := pb_gd hf
          refine And.intro hg6 (Exists.intro q7 (And.intro eq7 (And.intro hg8 (Exists.intro q10 (And.intro eq10 (And.intro hg11 (?_)))))))
          refine hG.1 6 102 kb_37_102 _ _ _ rfl ?_
          cases hf
          exact And.intro (fun z_ => absurd z_ (by decide)) (And.intro rfl rfl)
      rw [if_neg hc5] at hf
      by_cases hc13 : (v1 / 10) = 2
      · rw [if_pos hc13] at hf
        refine pb_gs (G := G) (tgt := 103) (show pb_swt 33 171 0 5 #[39, 45, 70, 95, 120, 145] (v1 / 10) = 103 by rw [hc13]; decide) ?_
        refine hG.1 7 103 kb_37_103 _ _ _ rfl ?_
        obtain ⟨hg14, hf⟩ := pb_gd hf
        obtain ⟨q15, eq15, hf⟩ := Option.bind_eq_some_iff.mp hf
        obtain ⟨hg16, hf⟩ := pb_gd hf
        refine And.intro hg14 (Exists.intro q15 (And.intro eq15 (?_)))
        obtain ⟨r17, cr17, hf⟩ := Option.bind_eq_some_iff.mp hf
        refine And.intro hg16 (And.intro (Nat.le_of_ble_eq_true rfl) (And.intro (Nat.le_of_ble_eq_true rfl) (Exists.intro (some (.int r17)) (Exists.intro _ (And.intro (l_4 cr17) (?_))))))
        refine And.intro (fun (hc20 : r17 = 0) => ?_) (fun (hc20 : ¬ (r17 = 0)) => ?_)
        · rw [if_pos hc20] at hf
          refine hG.1 8 126 kb_37_126 _ _ _ rfl ?_
          refine hG.1 9 127 kb_37_127 _ _ _ rfl ?_
          cases hf
          exact And.intro (fun z_ => absurd z_ (by decide)) (And.intro rfl rfl)
        · rw [if_neg hc20] at hf
          obtain ⟨q18, eq18, hf⟩ := Option.bind_eq_some_iff.mp hf
          obtain ⟨hg19, hf⟩ := pb_gd hf
          refine And.intro hg14 (Exists.intro q15 (And.intro eq15 (And.intro hg16 (Exists.intro q18 (And.intro eq18 (And.intro hg19 (?_)))))))
          refine hG.1 9 127 kb_37_127 _ _ _ rfl ?_
          cases hf
          exact And.intro (fun z_ => absurd z_ (by decide)) (And.intro rfl rfl)
      rw [if_neg hc13] at hf
      by_cases hc21 : (v1 / 10) = 3
      · rw [if_pos hc21] at hf
        refine pb_gs (G := G) (tgt := 128) (show pb_swt 33 171 0 5 #[39, 45, 70, 95, 120, 145] (v1 / 10) = 128 by rw [hc21]; decide) ?_
        refine hG.1 10 128 kb_37_128 _ _ _ rfl ?_
        obtain ⟨hg22, hf⟩ := pb_gd hf
        obtain ⟨q23, eq23, hf⟩ := Option.bind_eq_some_iff.mp hf
        obtain ⟨hg24, hf⟩ := pb_gd hf
        refine And.intro hg22 (Exists.intro q23 (And.intro eq23 (?_)))
        obtain ⟨r25, cr25, hf⟩ := Option.bind_eq_some_iff.mp hf
        refine And.intro hg24 (And.intro (Nat.le_of_ble_eq_true rfl) (And.intro (Nat.le_of_ble_eq_true rfl) (Exists.intro (some (.int r25)) (Exists.intro _ (And.intro (l_4 cr25) (?_))))))
        refine And.intro (fun (hc28 : r25 = 0) => ?_) (fun (hc28 : ¬ (r25 = 0)) => ?_)
        · rw [if_pos hc28] at hf
          refine hG.1 11 151 kb_37_151 _ _ _ rfl ?_
          refine hG.1 12 152 kb_37_152 _ _ _ rfl ?_
          cases hf
          exact And.intro (fun z_ => absurd z_ (by decide)) (And.intro rfl rfl)
        · rw [if_neg hc28] at hf
          obtain ⟨q26, eq26, hf⟩ := Option.bind_eq_some_iff.mp hf
          obtain ⟨hg27, hf⟩ := pb_gd hf
          refine And.intro hg22 (Exists.intro q23 (And.intro eq23 (And.intro hg24 (Exists.intro q26 (And.intro eq26 (And.intro hg27 (?_)))))))
          refine hG.1 12 152 kb_37_152 _ _ _ rfl ?_
          cases hf
          exact And.intro (fun z_ => absurd z_ (by decide)) (And.intro rfl rfl)
      rw [if_neg hc21] at hf
      by_cases hc29 : (v1 / 10) = 4
      · rw [if_pos hc29] at hf
        refine pb_gs (G := G) (tgt := 153) (show pb_swt 33 171 0 5 #[39, 45, 70, 95, 120, 145] (v1 / 10) = 153 by rw [hc29]; decide) ?_
        refine hG.1 13 153 kb_37_153 _ _ _ rfl ?_
        obtain ⟨hg30, hf⟩ := pb_gd hf
        obtain ⟨q31, eq31, hf⟩ := Option.bind_eq_some_iff.mp hf
        obtain ⟨hg32, hf⟩ := pb_gd hf
        refine And.intro hg30 (Exists.intro q31 (And.intro eq31 (?_)))
        obtain ⟨r33, cr33, hf⟩ := Option.bind_eq_some_iff.mp hf
        refine And.intro hg32 (And.intro (Nat.le_of_ble_eq_true rfl) (And.intro (Nat.le_of_ble_eq_true rfl) (Exists.intro (some (.int r33)) (Exists.intro _ (And.intro (l_4 cr33) (?_))))))
        refine And.intro (fun (hc36 : r33 = 0) => ?_) (fun (hc36 : ¬ (r33 = 0)) => ?_)
        · rw [if_pos hc36] at hf
          refine hG.1 14 176 kb_37_176 _ _ _ rfl ?_
          refine hG.1 15 177 kb_37_177 _ _ _ rfl ?_
          cases hf
          exact And.intro (fun z_ => absurd z_ (by decide)) (And.intro rfl rfl)
        · rw [if_neg hc36] at hf
          obtain ⟨q34, eq34, hf⟩ := Option.bind_eq_some_iff.mp hf
          obtain ⟨hg35, hf⟩ := pb_gd hf
          refine And.intro hg30 (Exists.intro q31 (And.intro eq31 (And.intro hg32 (Exists.intro q34 (And.intro eq34 (And.intro hg35 (?_)))))))
          refine hG.1 15 177 kb_37_177 _ _ _ rfl ?_
          cases hf
          exact And.intro (fun z_ => absurd z_ (by decide)) (And.intro rfl rfl)
      rw [if_neg hc29] at hf
      by_cases hc37 : (v1 / 10) = 5
      · rw [if_pos hc37] at hf
        refine pb_gs (G := G) (tgt := 178) (show pb_swt 33 171 0 5 #[39, 45, 70, 95, 120, 145] (v1 / 10) = 178 by rw [hc37]; decide) ?_
        refine hG.1 16 178 kb_37_178 _ _ _ rfl ?_
        obtain ⟨hg38, hf⟩ := pb_gd hf
        obtain ⟨q39, eq39, hf⟩ := Option.bind_eq_some_iff.mp hf
        obtain ⟨hg40, hf⟩ := pb_gd hf
        refine And.intro hg38 (Exists.intro q39 (And.intro eq39 (?_)))
        obtain ⟨r41, cr41, hf⟩ := Option.bind_eq_some_iff.mp hf
        refine And.intro hg40 (And.intro (Nat.le_of_ble_eq_true rfl) (And.intro (Nat.le_of_ble_eq_true rfl) (Exists.intro (some (.int r41)) (Exists.intro _ (And.intro (l_4 cr41) (?_))))))
        refine And.intro (fun (hc43 : r41 = 0) => ?_) (fun (hc43 : ¬ (r41 = 0)) => ?_)
        · rw [if_pos hc43] at hf
          refine hG.1 17 202 kb_37_202 _ _ _ rfl ?_
          refine hG.1 18 203 kb_37_203 _ _ _ rfl ?_
          cases hf
          exact And.intro (fun z_ => absurd z_ (by decide)) (And.intro rfl rfl)
        · rw [if_neg hc43] at hf
          refine And.intro hg38 (Exists.intro q39 (And.intro eq39 (?_)))
          obtain ⟨r42, cr42, hf⟩ := Option.bind_eq_some_iff.mp hf
          refine And.intro hg40 (And.intro (Nat.le_of_ble_eq_true rfl) (And.intro (Nat.le_of_ble_eq_true rfl) (Exists.intro (some (.int r42)) (Exists.intro _ (And.intro (l_11 cr42) (?_))))))
          refine hG.1 18 203 kb_37_203 _ _ _ rfl ?_
          cases hf
          exact And.intro (fun z_ => absurd z_ (by decide)) (And.intro rfl rfl)
      rw [if_neg hc37] at hf
      refine pb_gs (G := G) (tgt := 204) (show pb_swt 33 171 0 5 #[39, 45, 70, 95, 120, 145] (v1 / 10) = 204 from pb_swd (by decide) (by decide) (fun k_ hk_ => by
        have hk_ : k_ < 6 := hk_
        match k_, hk_ with
        | 0, _ => exact hc1
        | 1, _ => exact hc5
        | 2, _ => exact hc13
        | 3, _ => exact hc21
        | 4, _ => exact hc29
        | 5, _ => exact hc37
        | k_ + 6, hk_ => omega)) ?_
      refine hG.1 19 204 kb_37_204 _ _ _ rfl ?_
      cases hf
      exact And.intro (fun z_ => absurd z_ (by decide)) (And.intro rfl rfl)
    · rw [if_neg hc48] at hf
      obtain ⟨hg44, hf⟩ := pb_gd hf
      obtain ⟨q45, eq45, hf⟩ := Option.bind_eq_some_iff.mp hf
      obtain ⟨hg46, hf⟩ := pb_gd hf
      refine And.intro hg44 (Exists.intro q45 (And.intro eq45 (?_)))
      obtain ⟨r47, cr47, hf⟩ := Option.bind_eq_some_iff.mp hf
      refine And.intro hg46 (And.intro (Nat.le_of_ble_eq_true rfl) (And.intro (Nat.le_of_ble_eq_true rfl) (Exists.intro (some (.int r47)) (Exists.intro _ (And.intro (l_6 cr47) (?_))))))
      cases hf
      exact And.intro (fun z_ => absurd z_ (by decide)) (And.intro rfl rfl)
  · rw [if_neg hc49] at hf
    cases hf
    exact And.intro (fun z_ => absurd z_ (by decide)) (And.intro rfl rfl)
def f_41_134 (N : Nat) (h : pb_HP) (v0 : Nat) (v2 : Int32) (v6 : Int32) (v7 : Int32) (s0 : Int32) : Option (pb_HP) :=
  if pb_is h v0 1 then ((f_31 N h v0 v2 v6 v7 s0).bind fun (r15, h16) => (some h16)) else none
def f_41_116 (N : Nat) (h : pb_HP) (v0 : Nat) (v2 : Int32) (v6 : Int32) (s0 : Int32) : Option (pb_HP) :=
  if ¬ v2 = 3 then (f_41_134 N h v0 v2 v6 s0 ((-1))) else (if pb_is h v0 1 then ((f_40 h v0 3).bind fun (r18, h19) => (f_41_134 N h19 v0 v2 v6 s0 (1 + r18))) else none)
def f_41_69 (N : Nat) (h : pb_HP) (v0 : Nat) (v2 : Int32) (v4 : Int32) (s0 : Int32) : Option (pb_HP) :=
  if v4 = 0 then (if s0 ≤ 0 then (some h) else (if pb_is h v0 1 then ((f_40 h v0 s0).bind fun (r9, h10) => (if ¬ v2 = 4 then (if pb_is h10 v0 1 then ((f_40 h10 v0 6).bind fun (r12, h13) => (f_41_116 N h13 v0 v2 r9 r12)) else none) else (f_41_116 N h10 v0 v2 r9 ((-1))))) else none)) else (if pb_is h v0 1 then ((f_31 N h v0 v2 ((-1)) ((-1)) ((-1))).bind fun (r24, h25) => (some h25)) else none)
def f_41_46 (N : Nat) (h : pb_HP) (v0 : Nat) (v2 : Int32) (v3 : Int32) (s0 : Int32) : Option (pb_HP) :=
  if v3 = 0 then (if pb_is h v0 1 then ((pb_R h v0 0).bind fun q6 => (if pb_is h q6 0 then (f_41_69 N h v0 v2 s0 (pb_I h q6 1)) else none)) else none) else (if pb_is h v0 1 then ((pb_R h v0 0).bind fun q28 => (if pb_is h q28 0 then (f_41_69 N h v0 v2 s0 (pb_I h q28 0)) else none)) else none)
def f_41_29 (N : Nat) (h : pb_HP) (v0 : Nat) (v2 : Int32) (s0 : Int32) : Option (pb_HP) :=
  if v2 = 5 then (f_41_46 N h v0 v2 s0 1) else (if ¬ v2 = 6 then (f_41_46 N h v0 v2 s0 0) else (f_41_46 N h v0 v2 s0 1))
/-- Course.drawDeed -/
def f_41 (N : Nat) (h : pb_HP) (v0 : Nat) : Option (pb_HP) :=
  if pb_is h v0 1 then ((f_40 h v0 (Int32.ofNat pb_S1.length)).bind fun (r2, h3) => (if pb_in r2 pb_S1.length then (if (pb_S1.getD r2.toNatClampNeg 0) = 0 then (f_41_29 N h3 v0 (pb_S1.getD r2.toNatClampNeg 0) 1) else (if ¬ (pb_S1.getD r2.toNatClampNeg 0) = 1 then (f_41_29 N h3 v0 (pb_S1.getD r2.toNatClampNeg 0) 0) else (f_41_29 N h3 v0 (pb_S1.getD r2.toNatClampNeg 0) 1))) else none)) else none
set_option maxRecDepth 4000 in
theorem l_41 {xs : List Int32} {d : Nat} {N : Nat} {h : pb_HP} {v0 : Nat} {hE : pb_HP} (hf : f_41 N h v0 = some hE) : pb_AR xs (d + 5) 41 h [.ref v0] none hE := by
  intro G hG
  have hc_ : pb_CODE 41 = kc_41 := rfl
  rw [hc_] at hG
  have hj_134 : ∀ (h : pb_HP) (v0 : Nat) (v2 : Int32) (v6 : Int32) (v7 : Int32) (s0 : Int32), f_41_134 N h v0 v2 v6 v7 s0 = some hE → G 134 [(0, .ref v0), (2, .int v2), (6, .int v6), (7, .int v7)] [.int s0] h := by
    intro h v0 v2 v6 v7 s0 hf
    unfold f_41_134 at hf
    refine hG.1 13 134 kb_41_134 _ _ _ rfl ?_
    obtain ⟨hg14, hf⟩ := pb_gd hf
    obtain ⟨⟨r15, h16⟩, cr15, hf⟩ := Option.bind_eq_some_iff.mp hf
    try dsimp only at hf
    refine And.intro hg14 (And.intro (Nat.le_of_ble_eq_true rfl) (And.intro (Nat.le_of_ble_eq_true rfl) (Exists.intro (some (.int r15)) (Exists.intro _ (And.intro (l_31 cr15) (?_))))))
    refine hG.1 14 148 kb_41_148 _ _ _ rfl ?_
    cases hf
    exact And.intro rfl rfl
  have hj_116 : ∀ (h : pb_HP) (v0 : Nat) (v2 : Int32) (v6 : Int32) (s0 : Int32), f_41_116 N h v0 v2 v6 s0 = some hE → G 116 [(0, .ref v0), (2, .int v2), (6, .int v6)] [.int s0] h := by
    intro h v0 v2 v6 s0 hf
    unfold f_41_116 at hf
    refine hG.1 11 116 kb_41_116 _ _ _ rfl ?_
    refine And.intro (fun (hc20 : ¬ v2 = 3) => ?_) (fun (hc20 : ¬ (¬ v2 = 3)) => ?_)
    · rw [if_pos hc20] at hf
      refine hG.1 12 133 kb_41_133 _ _ _ rfl ?_
      exact hj_134 _ _ _ _ _ _ hf
    · rw [if_neg hc20] at hf
      obtain ⟨hg17, hf⟩ := pb_gd hf
      obtain ⟨⟨r18, h19⟩, cr18, hf⟩ := Option.bind_eq_some_iff.mp hf
      try dsimp only at hf
      refine And.intro hg17 (And.intro (Nat.le_of_ble_eq_true rfl) (And.intro (Nat.le_of_ble_eq_true rfl) (Exists.intro (some (.int r18)) (Exists.intro _ (And.intro (l_40 cr18) (?_))))))
      exact hj_134 _ _ _ _ _ _ hf
  have hj_69 : ∀ (h : pb_HP) (v0 : Nat) (v2 : Int32) (v4 : Int32) (s0 : Int32), f_41_69 N h v0 v2 v4 s0 = some hE → G 69 [(0, .ref v0), (2, .int v2), (4, .int v4)] [.int s0] h := by
    intro h v0 v2 v4 s0 hf
    unfold f_41_69 at hf
    refine hG.1 8 69 kb_41_69 _ _ _ rfl ?_
    refine And.intro (fun (hc26 : v4 = 0) => ?_) (fun (hc26 : ¬ (v4 = 0)) => ?_)
    · rw [if_pos hc26] at hf
      refine hG.1 9 88 kb_41_88 _ _ _ rfl ?_
      refine And.intro (fun (hc22 : s0 ≤ 0) => ?_) (fun (hc22 : ¬ (s0 ≤ 0)) => ?_)
      · rw [if_pos hc22] at hf
        refine hG.1 14 148 kb_41_148 _ _ _ rfl ?_
        cases hf
        exact And.intro rfl rfl
      · rw [if_neg hc22] at hf
        obtain ⟨hg8, hf⟩ := pb_gd hf
        obtain ⟨⟨r9, h10⟩, cr9, hf⟩ := Option.bind_eq_some_iff.mp hf
        try dsimp only at hf
        refine And.intro hg8 (And.intro (Nat.le_of_ble_eq_true rfl) (And.intro (Nat.le_of_ble_eq_true rfl) (Exists.intro (some (.int r9)) (Exists.intro _ (And.intro (l_40 cr9) (?_))))))
        refine And.intro (fun (hc21 : ¬ v2 = 4) => ?_) (fun (hc21 : ¬ (¬ v2 = 4)) => ?_)
        · rw [if_pos hc21] at hf
          refine hG.1 10 110 kb_41_110 _ _ _ rfl ?_
          obtain ⟨hg11, hf⟩ := pb_gd hf
          obtain ⟨⟨r12, h13⟩, cr12, hf⟩ := Option.bind_eq_some_iff.mp hf
          try dsimp only at hf
          refine And.intro hg11 (And.intro (Nat.le_of_ble_eq_true rfl) (And.intro (Nat.le_of_ble_eq_true rfl) (Exists.intro (some (.int r12)) (Exists.intro _ (And.intro (l_40 cr12) (?_))))))
          refine hG.2 116 _ [0, 1, 4] _ _ _ rfl ?_
          exact hj_116 _ _ _ _ _ hf
        · rw [if_neg hc21] at hf
          refine hG.2 116 _ [0, 1, 4] _ _ _ rfl ?_
          exact hj_116 _ _ _ _ _ hf
    · rw [if_neg hc26] at hf
      obtain ⟨hg23, hf⟩ := pb_gd hf
      obtain ⟨⟨r24, h25⟩, cr24, hf⟩ := Option.bind_eq_some_iff.mp hf
      try dsimp only at hf
      refine And.intro hg23 (And.intro (Nat.le_of_ble_eq_true rfl) (And.intro (Nat.le_of_ble_eq_true rfl) (Exists.intro (some (.int r24)) (Exists.intro _ (And.intro (l_31 cr24) (?_))))))
      refine hG.1 14 148 kb_41_148 _ _ _ rfl ?_
      cases hf
      exact And.intro rfl rfl
  have hj_46 : ∀ (h : pb_HP) (v0 : Nat) (v2 : Int32) (v3 : Int32) (s0 : Int32), f_41_46 N h v0 v2 v3 s0 = some hE → G 46 [(0, .ref v0), (2, .int v2), (3, .int v3)] [.int s0] h := by
    intro h v0 v2 v3 s0 hf
    unfold f_41_46 at hf
    refine hG.1 6 46 kb_41_46 _ _ _ rfl ?_
    refine And.intro (fun (hc30 : v3 = 0) => ?_) (fun (hc30 : ¬ (v3 = 0)) => ?_)
    · rw [if_pos hc30] at hf
      refine hG.1 7 62 kb_41_62 _ _ _ rfl ?_
      obtain ⟨hg5, hf⟩ := pb_gd hf
      obtain ⟨q6, eq6, hf⟩ := Option.bind_eq_some_iff.mp hf
      obtain ⟨hg7, hf⟩ := pb_gd hf
      refine And.intro hg5 (Exists.intro q6 (And.intro eq6 (And.intro hg7 (?_))))
      refine hG.2 69 _ [0, 1, 3] _ _ _ rfl ?_
      exact hj_69 _ _ _ _ _ hf
    · rw [if_neg hc30] at hf
      obtain ⟨hg27, hf⟩ := pb_gd hf
      obtain ⟨q28, eq28, hf⟩ := Option.bind_eq_some_iff.mp hf
      obtain ⟨hg29, hf⟩ := pb_gd hf
      refine And.intro hg27 (Exists.intro q28 (And.intro eq28 (And.intro hg29 (?_))))
      refine hG.2 69 _ [0, 1, 3] _ _ _ rfl ?_
      exact hj_69 _ _ _ _ _ hf
  have hj_29 : ∀ (h : pb_HP) (v0 : Nat) (v2 : Int32) (s0 : Int32), f_41_29 N h v0 v2 s0 = some hE → G 29 [(0, .ref v0), (2, .int v2)] [.int s0] h := by
    intro h v0 v2 s0 hf
    unfold f_41_29 at hf
    refine hG.1 3 29 kb_41_29 _ _ _ rfl ?_
    refine And.intro (fun (hc32 : v2 = 5) => ?_) (fun (hc32 : ¬ (v2 = 5)) => ?_)
    · rw [if_pos hc32] at hf
      refine hG.1 4 41 kb_41_41 _ _ _ rfl ?_
      exact hj_46 _ _ _ _ _ hf
    · rw [if_neg hc32] at hf
      refine And.intro (fun (hc31 : ¬ v2 = 6) => ?_) (fun (hc31 : ¬ (¬ v2 = 6)) => ?_)
      · rw [if_pos hc31] at hf
        refine hG.1 5 45 kb_41_45 _ _ _ rfl ?_
        exact hj_46 _ _ _ _ _ hf
      · rw [if_neg hc31] at hf
        refine hG.1 4 41 kb_41_41 _ _ _ rfl ?_
        exact hj_46 _ _ _ _ _ hf
  unfold f_41 at hf
  refine hG.1 0 0 kb_41_0 _ _ _ rfl ?_
  obtain ⟨hg1, hf⟩ := pb_gd hf
  refine And.intro (And.intro (by decide) (by decide)) (?_)
  obtain ⟨⟨r2, h3⟩, cr2, hf⟩ := Option.bind_eq_some_iff.mp hf
  try dsimp only at hf
  refine And.intro hg1 (And.intro (Nat.le_of_ble_eq_true rfl) (And.intro (Nat.le_of_ble_eq_true rfl) (Exists.intro (some (.int r2)) (Exists.intro _ (And.intro (l_40 cr2) (?_))))))
  obtain ⟨hg4, hf⟩ := pb_gd hf
  refine And.intro hg4 (?_)
  refine And.intro (fun (hc34 : (pb_S1.getD r2.toNatClampNeg 0) = 0) => ?_) (fun (hc34 : ¬ ((pb_S1.getD r2.toNatClampNeg 0) = 0)) => ?_)
  · rw [if_pos hc34] at hf
    refine hG.1 1 24 kb_41_24 _ _ _ rfl ?_
    refine hG.2 29 _ [0, 2] _ _ _ rfl ?_
    exact hj_29 _ _ _ _ hf
  · rw [if_neg hc34] at hf
    refine And.intro (fun (hc33 : ¬ (pb_S1.getD r2.toNatClampNeg 0) = 1) => ?_) (fun (hc33 : ¬ (¬ (pb_S1.getD r2.toNatClampNeg 0) = 1)) => ?_)
    · rw [if_pos hc33] at hf
      refine hG.1 2 28 kb_41_28 _ _ _ rfl ?_
      refine hG.2 29 _ [0, 2] _ _ _ rfl ?_
      exact hj_29 _ _ _ _ hf
    · rw [if_neg hc33] at hf
      refine hG.1 1 24 kb_41_24 _ _ _ rfl ?_
      refine hG.2 29 _ [0, 2] _ _ _ rfl ?_
      exact hj_29 _ _ _ _ hf
def f_63_38 (N : Nat) (h : pb_HP) (v0 : Nat) (v1 : Int32) : Option (Int32 × pb_HP) :=
  if v1 < 10 then (some (((-2), h))) else (if pb_is h v0 3 then (if (pb_I h v0 0) ≤ (v1 - 10) then (some (((-2), h))) else ((pb_R h v0 1).bind fun q2 => (if pb_ar h q2 12 (v1 - 10) then (some ((pb_I h q2 (v1 - 10).toNatClampNeg, h))) else none))) else none)
/-- Likings.told -/
def f_63 (N : Nat) (h : pb_HP) (v0 : Nat) (v1 : Int32) : Option (Int32 × pb_HP) :=
  if ¬ v1 = 0 then (if ¬ v1 = 1 then (if v1 < 2 then (f_63_38 N h v0 v1) else (if 8 ≤ v1 then (f_63_38 N h v0 v1) else (if pb_is h v0 3 then ((f_64 N h v0 (v1 - 2)).bind fun r7 => (some ((r7, h)))) else none))) else (if pb_is h v0 3 then ((f_65 N h v0).bind fun (r11, h12) => (some ((r11, h12)))) else none)) else (if pb_is h v0 3 then (some ((pb_I h v0 0, h))) else none)
set_option maxRecDepth 4000 in
theorem l_63 {xs : List Int32} {d : Nat} {N : Nat} {h : pb_HP} {v0 : Nat} {v1 : Int32} {r : Int32} {hE : pb_HP} (hf : f_63 N h v0 v1 = some ((r, hE))) : pb_AR xs (d + 5) 63 h [.ref v0, .int v1] (some (.int r)) hE := by
  intro G hG
  have hc_ : pb_CODE 63 = kc_63 := rfl
  rw [hc_] at hG
  have hj_38 : ∀ (h : pb_HP) (v0 : Nat) (v1 : Int32), f_63_38 N h v0 v1 = some ((r, hE)) → G 38 [(0, .ref v0), (1, .int v1)] [] h := by
    intro h v0 v1 hf
    unfold f_63_38 at hf
    refine hG.1 3 38 kb_63_38 _ _ _ rfl ?_
    refine And.intro (fun (hc5 : v1 < 10) => ?_) (fun (hc5 : ¬ (v1 < 10)) => ?_)
    · rw [if_pos hc5] at hf
      refine hG.1 4 67 kb_63_67 _ _ _ rfl ?_
      refine hG.1 5 69 kb_63_69 _ _ _ rfl ?_
      cases hf
      exact And.intro (fun z_ => absurd z_ (by decide)) (And.intro rfl rfl)
    · rw [if_neg hc5] at hf
      obtain ⟨hg1, hf⟩ := pb_gd hf
      refine And.intro hg1 (?_)
      refine And.intro (fun (hc4 : (pb_I h v0 0) ≤ (v1 - 10)) => ?_) (fun (hc4 : ¬ ((pb_I h v0 0) ≤ (v1 - 10))) => ?_)
      · rw [if_pos hc4] at hf
        refine hG.1 4 67 kb_63_67 _ _ _ rfl ?_
        refine hG.1 5 69 kb_63_69 _ _ _ rfl ?_
        cases hf
        exact And.intro (fun z_ => absurd z_ (by decide)) (And.intro rfl rfl)
      · rw [if_neg hc4] at hf
        obtain ⟨q2, eq2, hf⟩ := Option.bind_eq_some_iff.mp hf
        obtain ⟨hg3, hf⟩ := pb_gd hf
        refine And.intro hg1 (Exists.intro q2 (And.intro eq2 (And.intro hg3 (?_))))
        refine hG.1 5 69 kb_63_69 _ _ _ rfl ?_
        cases hf
        exact And.intro (fun z_ => absurd z_ (by decide)) (And.intro rfl rfl)
  unfold f_63 at hf
  refine hG.1 0 0 kb_63_0 _ _ _ rfl ?_
  refine And.intro (fun (hc15 : ¬ v1 = 0) => ?_) (fun (hc15 : ¬ (¬ v1 = 0)) => ?_)
  · rw [if_pos hc15] at hf
    refine hG.1 1 9 kb_63_9 _ _ _ rfl ?_
    refine And.intro (fun (hc13 : ¬ v1 = 1) => ?_) (fun (hc13 : ¬ (¬ v1 = 1)) => ?_)
    · rw [if_pos hc13] at hf
      refine hG.1 2 19 kb_63_19 _ _ _ rfl ?_
      refine And.intro (fun (hc9 : v1 < 2) => ?_) (fun (hc9 : ¬ (v1 < 2)) => ?_)
      · rw [if_pos hc9] at hf
        exact hj_38 _ _ _ hf
      · rw [if_neg hc9] at hf
        refine And.intro (fun (hc8 : 8 ≤ v1) => ?_) (fun (hc8 : ¬ (8 ≤ v1)) => ?_)
        · rw [if_pos hc8] at hf
          exact hj_38 _ _ _ hf
        · rw [if_neg hc8] at hf
          obtain ⟨hg6, hf⟩ := pb_gd hf
          obtain ⟨r7, cr7, hf⟩ := Option.bind_eq_some_iff.mp hf
          refine And.intro hg6 (And.intro (Nat.le_of_ble_eq_true rfl) (And.intro (Nat.le_of_ble_eq_true rfl) (Exists.intro (some (.int r7)) (Exists.intro _ (And.intro (l_64 cr7) (?_))))))
          cases hf
          exact And.intro (fun z_ => absurd z_ (by decide)) (And.intro rfl rfl)
    · rw [if_neg hc13] at hf
      obtain ⟨hg10, hf⟩ := pb_gd hf
      obtain ⟨⟨r11, h12⟩, cr11, hf⟩ := Option.bind_eq_some_iff.mp hf
      try dsimp only at hf
      refine And.intro hg10 (And.intro (Nat.le_of_ble_eq_true rfl) (And.intro (Nat.le_of_ble_eq_true rfl) (Exists.intro (some (.int r11)) (Exists.intro _ (And.intro (l_65 cr11) (?_))))))
      cases hf
      exact And.intro (fun z_ => absurd z_ (by decide)) (And.intro rfl rfl)
  · rw [if_neg hc15] at hf
    obtain ⟨hg14, hf⟩ := pb_gd hf
    refine And.intro hg14 (?_)
    cases hf
    exact And.intro (fun z_ => absurd z_ (by decide)) (And.intro rfl rfl)
def f_85_9s (N : Nat) (v0 : Nat) (v1 : Int32) (s : Int32 × pb_HP) : Option ((Int32 × pb_HP) ⊕ ((pb_HP) ⊕ (pb_HP))) :=
  if pb_is s.2 v0 6 then (if (pb_I s.2 v0 6) < s.1 then (some (.inr (.inr s.2))) else ((f_88 N s.2 v0).bind fun h6 => (if pb_is h6 v0 6 then (if ¬ (pb_I h6 v0 7) = 0 then ((f_91 N h6 v0 v1).bind fun (r8, h9) => (if ¬ r8 = 0 then (some (.inl ((s.1 + 1, h9)))) else (if pb_is h9 v0 6 then (some (.inr (.inl (pb_pI (pb_pI h9 v0 3 1) v0 4 (pb_I (pb_pI h9 v0 3 1) v0 8))))) else none))) else (if ¬ (pb_I h6 v0 3) = 0 then (some (.inr (.inl h6))) else ((f_98 h6 v0).bind fun r12 => (if r12 = 0 then (some (.inr (.inl h6))) else ((f_87 h6 v0 4 (pb_I h6 v0 6)).bind fun h14 => (some (.inr (.inl h14)))))))) else none))) else none
/-- Reader.read -/
def f_85 (N : Nat) (h : pb_HP) (v0 : Nat) (v1 : Int32) (v2 : Nat) (v3 : Int32) : Option (pb_HP) :=
  if pb_is h v0 6 then ((f_86 N h v0 v2 v3).bind fun h3 => ((pb_wl (f_85_9s N v0 v1) N ((0, h3))).bind fun e19 => (match e19 with | .inl q21 => some q21 | .inr x20 => some x20))) else none
set_option maxRecDepth 4000 in
theorem l_85 {xs : List Int32} {d : Nat} {N : Nat} {h : pb_HP} {v0 : Nat} {v1 : Int32} {v2 : Nat} {v3 : Int32} {hE : pb_HP} (hf : f_85 N h v0 v1 v2 v3 = some hE) : pb_AR xs (d + 5) 85 h [.ref v0, .int v1, .ref v2, .int v3] none hE := by
  intro G hG
  have hc_ : pb_CODE 85 = kc_85 := rfl
  rw [hc_] at hG
  have hl_9 : ∀ (v0 : Nat) (v1 : Int32) (n_ : Nat) (s : Int32 × pb_HP) (e : (pb_HP) ⊕ (pb_HP)), pb_wl (f_85_9s N v0 v1) n_ s = some e → pb_kk (fun (q_ : pb_HP) => q_ = hE) (fun (x_ : pb_HP) => G 81 [] [] x_) e → G 9 [(0, .ref v0), (1, .int v1), (4, .int s.1)] [] s.2 := by
    intro v0 v1
    refine pb_wl_ind (I := fun (s : Int32 × pb_HP) => G 9 [(0, .ref v0), (1, .int v1), (4, .int s.1)] [] s.2) (K := fun (e : (pb_HP) ⊕ (pb_HP)) => pb_kk (fun (q_ : pb_HP) => q_ = hE) (fun (x_ : pb_HP) => G 81 [] [] x_) e) (fun s x hf hk => ?_)
    unfold f_85_9s at hf
    refine hG.1 1 9 kb_85_9 _ _ _ rfl ?_
    obtain ⟨hg4, hf⟩ := pb_gd hf
    refine And.intro hg4 (?_)
    refine And.intro (fun (hc18 : (pb_I s.2 v0 6) < s.1) => ?_) (fun (hc18 : ¬ ((pb_I s.2 v0 6) < s.1)) => ?_)
    · rw [if_pos hc18] at hf
      cases hf
      exact hG.2 81 _ [] _ _ _ rfl hk
    · rw [if_neg hc18] at hf
      obtain ⟨h6, cr5, hf⟩ := Option.bind_eq_some_iff.mp hf
      refine And.intro hg4 (And.intro (Nat.le_of_ble_eq_true rfl) (And.intro (Nat.le_of_ble_eq_true rfl) (Exists.intro none (Exists.intro _ (And.intro (l_88 cr5) (?_))))))
      obtain ⟨hg7, hf⟩ := pb_gd hf
      refine And.intro hg7 (?_)
      refine And.intro (fun (hc17 : ¬ (pb_I h6 v0 7) = 0) => ?_) (fun (hc17 : ¬ (¬ (pb_I h6 v0 7) = 0)) => ?_)
      · rw [if_pos hc17] at hf
        refine hG.1 3 53 kb_85_53 _ _ _ rfl ?_
        obtain ⟨⟨r8, h9⟩, cr8, hf⟩ := Option.bind_eq_some_iff.mp hf
        try dsimp only at hf
        refine And.intro hg7 (And.intro (Nat.le_of_ble_eq_true rfl) (And.intro (Nat.le_of_ble_eq_true rfl) (Exists.intro (some (.int r8)) (Exists.intro _ (And.intro (l_91 cr8) (?_))))))
        refine And.intro (fun (hc11 : ¬ r8 = 0) => ?_) (fun (hc11 : ¬ (¬ r8 = 0)) => ?_)
        · rw [if_pos hc11] at hf
          refine hG.1 4 75 kb_85_75 _ _ _ rfl ?_
          cases hf
          exact hk
        · rw [if_neg hc11] at hf
          obtain ⟨hg10, hf⟩ := pb_gd hf
          refine And.intro hg10 (And.intro hg10 (And.intro hg10 (?_)))
          cases hf
          cases hk
          exact And.intro rfl rfl
      · rw [if_neg hc17] at hf
        refine And.intro hg7 (?_)
        refine And.intro (fun (hc16 : ¬ (pb_I h6 v0 3) = 0) => ?_) (fun (hc16 : ¬ (¬ (pb_I h6 v0 3) = 0)) => ?_)
        · rw [if_pos hc16] at hf
          refine hG.1 2 52 kb_85_52 _ _ _ rfl ?_
          cases hf
          cases hk
          exact And.intro rfl rfl
        · rw [if_neg hc16] at hf
          obtain ⟨r12, cr12, hf⟩ := Option.bind_eq_some_iff.mp hf
          refine And.intro hg7 (And.intro (Nat.le_of_ble_eq_true rfl) (And.intro (Nat.le_of_ble_eq_true rfl) (Exists.intro (some (.int r12)) (Exists.intro _ (And.intro (l_98 cr12) (?_))))))
          refine And.intro (fun (hc15 : r12 = 0) => ?_) (fun (hc15 : ¬ (r12 = 0)) => ?_)
          · rw [if_pos hc15] at hf
            refine hG.1 2 52 kb_85_52 _ _ _ rfl ?_
            cases hf
            cases hk
            exact And.intro rfl rfl
          · rw [if_neg hc15] at hf
            refine And.intro hg7 (?_)
            obtain ⟨h14, cr13, hf⟩ := Option.bind_eq_some_iff.mp hf
            refine And.intro hg7 (And.intro (Nat.le_of_ble_eq_true rfl) (And.intro (Nat.le_of_ble_eq_true rfl) (Exists.intro none (Exists.intro _ (And.intro (l_87 cr13) (?_))))))
            refine hG.1 2 52 kb_85_52 _ _ _ rfl ?_
            cases hf
            cases hk
            exact And.intro rfl rfl
  unfold f_85 at hf
  refine hG.1 0 0 kb_85_0 _ _ _ rfl ?_
  obtain ⟨hg1, hf⟩ := pb_gd hf
  obtain ⟨h3, cr2, hf⟩ := Option.bind_eq_some_iff.mp hf
  refine And.intro hg1 (And.intro (Nat.le_of_ble_eq_true rfl) (And.intro (Nat.le_of_ble_eq_true rfl) (Exists.intro none (Exists.intro _ (And.intro (l_86 cr2) (?_))))))
  obtain ⟨e19, he_e19, hf⟩ := Option.bind_eq_some_iff.mp hf
  refine hG.2 9 _ [0, 1, 4] _ _ _ rfl ?_
  refine hl_9 _ _ _ _ _ he_e19 ?_
  cases e19 with
  | inl q21 =>
    exact Option.some.inj hf
  | inr x20 =>
    try dsimp only at hf
    refine hG.1 5 81 kb_85_81 _ _ _ rfl ?_
    cases hf
    exact And.intro rfl rfl
def f_112_54 (N : Nat) (h : pb_HP) (v0 : Nat) (v2 : Int32) (v3 : Int32) (v4 : Int32) (v5 : Int32) : Option ((Int32 × Int32 × pb_HP) ⊕ (Int32 × pb_HP)) :=
  if pb_is h v0 8 then ((pb_R h v0 0).bind fun q10 => (if pb_is h q10 0 then ((pb_R h q10 3).bind fun q12 => (if pb_ar h q12 12 v2 then ((f_109 N (pb_pI h q12 v2.toNatClampNeg (v3 ||| v5)) v0).bind fun (r14, h15) => (if ¬ r14 = v2 then (some (.inl ((v4, v5 + 1, h15)))) else (some (.inl ((v5, v5 + 1, h15)))))) else none)) else none)) else none
def f_112_21s (N : Nat) (v0 : Nat) (v2 : Int32) (v3 : Int32) (s : Int32 × Int32 × pb_HP) : Option ((Int32 × Int32 × pb_HP) ⊕ (Int32 × pb_HP)) :=
  if 63 < s.2.1 then (some (.inr ((s.1, s.2.2)))) else (if ¬ (s.2.1 &&& v3) = 0 then (some (.inl ((s.1, s.2.1 + 1, s.2.2)))) else (if s.1 = ((-1)) then (f_112_54 N s.2.2 v0 v2 v3 s.1 s.2.1) else ((f_305 s.2.1).bind fun r17 => ((f_305 s.1).bind fun r18 => (if r18 ≤ r17 then (some (.inl ((s.1, s.2.1 + 1, s.2.2)))) else (f_112_54 N s.2.2 v0 v2 v3 s.1 s.2.1))))))
/-- Trial.fewestShown -/
def f_112 (N : Nat) (h : pb_HP) (v0 : Nat) (v1 : Nat) (v2 : Int32) : Option (Int32 × pb_HP) :=
  if pb_is h v0 8 then ((pb_R h v0 0).bind fun q2 => (if pb_is h q2 0 then ((f_2 h q2 v1).bind fun h5 => (if pb_is h5 v1 0 then ((pb_R h5 v1 3).bind fun q7 => (if pb_ar h5 q7 12 v2 then ((pb_wl (f_112_21s N v0 v2 (pb_I h5 q7 v2.toNatClampNeg)) N (((-1), 0, h5))).bind fun e23 => (some ((e23.1, e23.2)))) else none)) else none)) else none)) else none
set_option maxRecDepth 4000 in
theorem l_112 {xs : List Int32} {d : Nat} {N : Nat} {h : pb_HP} {v0 : Nat} {v1 : Nat} {v2 : Int32} {r : Int32} {hE : pb_HP} (hf : f_112 N h v0 v1 v2 = some ((r, hE))) : pb_AR xs (d + 5) 112 h [.ref v0, .ref v1, .int v2] (some (.int r)) hE := by
  intro G hG
  have hc_ : pb_CODE 112 = kc_112 := rfl
  rw [hc_] at hG
  have hj_54 : ∀ (h : pb_HP) (v0 : Nat) (v2 : Int32) (v3 : Int32) (v4 : Int32) (v5 : Int32) x, f_112_54 N h v0 v2 v3 v4 v5 = some x → pb_kk (fun (s_ : Int32 × Int32 × pb_HP) => G 21 [(0, .ref v0), (2, .int v2), (3, .int v3), (4, .int s_.1), (5, .int s_.2.1)] [] s_.2.2) (fun (e_ : Int32 × pb_HP) => G 85 [(4, .int e_.1)] [] e_.2) x → G 54 [(0, .ref v0), (2, .int v2), (3, .int v3), (4, .int v4), (5, .int v5)] [] h := by
    intro h v0 v2 v3 v4 v5 x hf hk
    unfold f_112_54 at hf
    refine hG.1 2 54 kb_112_54 _ _ _ rfl ?_
    obtain ⟨hg9, hf⟩ := pb_gd hf
    obtain ⟨q10, eq10, hf⟩ := Option.bind_eq_some_iff.mp hf
    obtain ⟨hg11, hf⟩ := pb_gd hf
    obtain ⟨q12, eq12, hf⟩ := Option.bind_eq_some_iff.mp hf
    obtain ⟨hg13, hf⟩ := pb_gd hf
    refine And.intro hg9 (Exists.intro q10 (And.intro eq10 (And.intro hg11 (Exists.intro q12 (And.intro eq12 (And.intro hg13 (?_)))))))
    obtain ⟨⟨r14, h15⟩, cr14, hf⟩ := Option.bind_eq_some_iff.mp hf
    try dsimp only at hf
    refine And.intro hg9 (And.intro (Nat.le_of_ble_eq_true rfl) (And.intro (Nat.le_of_ble_eq_true rfl) (Exists.intro (some (.int r14)) (Exists.intro _ (And.intro (l_109 cr14) (?_))))))
    refine And.intro (fun (hc16 : ¬ r14 = v2) => ?_) (fun (hc16 : ¬ (¬ r14 = v2)) => ?_)
    · rw [if_pos hc16] at hf
      refine hG.1 3 79 kb_112_79 _ _ _ rfl ?_
      cases hf
      exact hk
    · rw [if_neg hc16] at hf
      refine hG.1 3 79 kb_112_79 _ _ _ rfl ?_
      cases hf
      exact hk
  have hl_21 : ∀ (v0 : Nat) (v2 : Int32) (v3 : Int32) (n_ : Nat) (s : Int32 × Int32 × pb_HP) (e : Int32 × pb_HP), pb_wl (f_112_21s N v0 v2 v3) n_ s = some e → G 85 [(4, .int e.1)] [] e.2 → G 21 [(0, .ref v0), (2, .int v2), (3, .int v3), (4, .int s.1), (5, .int s.2.1)] [] s.2.2 := by
    intro v0 v2 v3
    refine pb_wl_ind (I := fun (s : Int32 × Int32 × pb_HP) => G 21 [(0, .ref v0), (2, .int v2), (3, .int v3), (4, .int s.1), (5, .int s.2.1)] [] s.2.2) (K := fun (e : Int32 × pb_HP) => G 85 [(4, .int e.1)] [] e.2) (fun s x hf hk => ?_)
    unfold f_112_21s at hf
    refine hG.1 1 21 kb_112_21 _ _ _ rfl ?_
    refine And.intro (fun (hc22 : 63 < s.2.1) => ?_) (fun (hc22 : ¬ (63 < s.2.1)) => ?_)
    · rw [if_pos hc22] at hf
      cases hf
      exact hG.2 85 _ [3] _ _ _ rfl hk
    · rw [if_neg hc22] at hf
      refine And.intro (fun (hc21 : ¬ (s.2.1 &&& v3) = 0) => ?_) (fun (hc21 : ¬ (¬ (s.2.1 &&& v3) = 0)) => ?_)
      · rw [if_pos hc21] at hf
        refine hG.1 3 79 kb_112_79 _ _ _ rfl ?_
        cases hf
        exact hk
      · rw [if_neg hc21] at hf
        refine And.intro (fun (hc20 : s.1 = ((-1))) => ?_) (fun (hc20 : ¬ (s.1 = ((-1)))) => ?_)
        · rw [if_pos hc20] at hf
          exact hj_54 _ _ _ _ _ _ _ hf hk
        · rw [if_neg hc20] at hf
          obtain ⟨r17, cr17, hf⟩ := Option.bind_eq_some_iff.mp hf
          refine And.intro (Nat.le_of_ble_eq_true rfl) (And.intro (Nat.le_of_ble_eq_true rfl) (And.intro (Nat.le_of_ble_eq_true rfl) (Exists.intro (some (.int r17)) (Exists.intro _ (And.intro (l_305 cr17) (?_))))))
          obtain ⟨r18, cr18, hf⟩ := Option.bind_eq_some_iff.mp hf
          refine And.intro (Nat.le_of_ble_eq_true rfl) (And.intro (Nat.le_of_ble_eq_true rfl) (And.intro (Nat.le_of_ble_eq_true rfl) (Exists.intro (some (.int r18)) (Exists.intro _ (And.intro (l_305 cr18) (?_))))))
          refine And.intro (fun (hc19 : r18 ≤ r17) => ?_) (fun (hc19 : ¬ (r18 ≤ r17)) => ?_)
          · rw [if_pos hc19] at hf
            refine hG.1 3 79 kb_112_79 _ _ _ rfl ?_
            cases hf
            exact hk
          · rw [if_neg hc19] at hf
            exact hj_54 _ _ _ _ _ _ _ hf hk
  unfold f_112 at hf
  refine hG.1 0 0 kb_112_0 _ _ _ rfl ?_
  obtain ⟨hg1, hf⟩ := pb_gd hf
  obtain ⟨q2, eq2, hf⟩ := Option.bind_eq_some_iff.mp hf
  obtain ⟨hg3, hf⟩ := pb_gd hf
  refine And.intro hg1 (Exists.intro q2 (And.intro eq2 (?_)))
  obtain ⟨h5, cr4, hf⟩ := Option.bind_eq_some_iff.mp hf
  refine And.intro hg3 (And.intro (Nat.le_of_ble_eq_true rfl) (And.intro (Nat.le_of_ble_eq_true rfl) (Exists.intro none (Exists.intro _ (And.intro (l_2 cr4) (?_))))))
  obtain ⟨hg6, hf⟩ := pb_gd hf
  obtain ⟨q7, eq7, hf⟩ := Option.bind_eq_some_iff.mp hf
  obtain ⟨hg8, hf⟩ := pb_gd hf
  refine And.intro hg6 (Exists.intro q7 (And.intro eq7 (And.intro hg8 (?_))))
  obtain ⟨e23, he_e23, hf⟩ := Option.bind_eq_some_iff.mp hf
  refine hG.2 21 _ [0, 2, 3, 4, 5] _ _ _ rfl ?_
  refine hl_21 _ _ _ _ _ _ he_e23 ?_
  refine hG.1 4 85 kb_112_85 _ _ _ rfl ?_
  cases hf
  exact And.intro (fun z_ => absurd z_ (by decide)) (And.intro rfl rfl)
def f_114_55s (N : Nat) (v0 : Nat) (v1 : Nat) (v2 : Int32) (v3 : Int32) (v4 : Int32) (v5 : Int32) (v6 : Int32) (s : Int32 × pb_HP) : Option ((Int32 × pb_HP) ⊕ ((Int32 × pb_HP) ⊕ (pb_HP))) :=
  if 6 ≤ s.1 then (some (.inr (.inr s.2))) else (if ((v4 >>> (v6 &&& 31)) &&& 1) = 0 then (some (.inl ((s.1 + 1, s.2)))) else (if ((v5 >>> (s.1 &&& 31)) &&& 1) = 0 then (some (.inl ((s.1 + 1, s.2)))) else (if pb_is s.2 v0 8 then ((pb_R s.2 v0 0).bind fun q11 => (if pb_is s.2 q11 0 then ((pb_R s.2 q11 3).bind fun q13 => (if pb_is s.2 v1 0 then ((pb_R s.2 v1 3).bind fun q15 => (if pb_ar s.2 q15 12 v2 then (if pb_ar s.2 q13 12 v2 then (if pb_ar s.2 q15 12 v3 then (if pb_ar s.2 q13 12 v3 then (pb_hb (pb_pI (pb_pI s.2 q13 v2.toNatClampNeg ((pb_I s.2 q15 v2.toNatClampNeg) ^^^ (((1 : Int32) <<< (v6 &&& 31)) ||| ((1 : Int32) <<< (s.1 &&& 31))))) q13 v3.toNatClampNeg ((pb_I (pb_pI s.2 q13 v2.toNatClampNeg ((pb_I s.2 q15 v2.toNatClampNeg) ^^^ (((1 : Int32) <<< (v6 &&& 31)) ||| ((1 : Int32) <<< (s.1 &&& 31))))) q15 v3.toNatClampNeg) ^^^ (((1 : Int32) <<< (v6 &&& 31)) ||| ((1 : Int32) <<< (s.1 &&& 31))))) fun h20 => ((f_109 N h20 v0).bind fun (r31, h32) => (if ¬ r31 = v2 then (some (.inl ((s.1 + 1, h32)))) else (some (.inr (.inl (((10 * v6) + s.1, h32)))))))) else none) else none) else none) else none)) else none)) else none)) else none)))
def f_114_45s (N : Nat) (v0 : Nat) (v1 : Nat) (v2 : Int32) (v3 : Int32) (v4 : Int32) (v5 : Int32) (s : Int32 × pb_HP) : Option ((Int32 × pb_HP) ⊕ ((Int32 × pb_HP) ⊕ (pb_HP))) :=
  if 6 ≤ s.1 then (some (.inr (.inr s.2))) else ((pb_wl (f_114_55s N v0 v1 v2 v3 v4 v5 s.1) N ((0, s.2))).bind fun e37 => (match e37 with | .inl q39 => some (.inr (.inl q39)) | .inr x38 => some (.inl ((s.1 + 1, x38)))))
/-- Trial.traded -/
def f_114 (N : Nat) (h : pb_HP) (v0 : Nat) (v1 : Nat) (v2 : Int32) (v3 : Int32) : Option (Int32 × pb_HP) :=
  if pb_is h v0 8 then ((pb_R h v0 0).bind fun q2 => (if pb_is h q2 0 then ((f_2 h q2 v1).bind fun h5 => (if pb_is h5 v1 0 then ((pb_R h5 v1 3).bind fun q7 => (if pb_ar h5 q7 12 v2 then (if pb_ar h5 q7 12 v3 then ((pb_wl (f_114_45s N v0 v1 v2 v3 ((pb_I h5 q7 v2.toNatClampNeg) &&& ((pb_I h5 q7 v3.toNatClampNeg) ^^^ ((-1)))) ((pb_I h5 q7 v3.toNatClampNeg) &&& ((pb_I h5 q7 v2.toNatClampNeg) ^^^ ((-1))))) N ((0, h5))).bind fun e41 => (match e41 with | .inl q43 => some q43 | .inr x42 => some (((-1), x42)))) else none) else none)) else none)) else none)) else none
set_option maxRecDepth 4000 in
theorem l_114 {xs : List Int32} {d : Nat} {N : Nat} {h : pb_HP} {v0 : Nat} {v1 : Nat} {v2 : Int32} {v3 : Int32} {r : Int32} {hE : pb_HP} (hf : f_114 N h v0 v1 v2 v3 = some ((r, hE))) : pb_AR xs (d + 5) 114 h [.ref v0, .ref v1, .int v2, .int v3] (some (.int r)) hE := by
  intro G hG
  have hc_ : pb_CODE 114 = kc_114 := rfl
  rw [hc_] at hG
  have hl_55 : ∀ (v0 : Nat) (v1 : Nat) (v2 : Int32) (v3 : Int32) (v4 : Int32) (v5 : Int32) (v6 : Int32) (n_ : Nat) (s : Int32 × pb_HP) (e : (Int32 × pb_HP) ⊕ (pb_HP)), pb_wl (f_114_55s N v0 v1 v2 v3 v4 v5 v6) n_ s = some e → pb_kk (fun (q_ : Int32 × pb_HP) => q_ = (r, hE)) (fun (x_ : pb_HP) => G 152 [(0, .ref v0), (1, .ref v1), (2, .int v2), (3, .int v3), (4, .int v4), (5, .int v5), (6, .int v6)] [] x_) e → G 55 [(0, .ref v0), (1, .ref v1), (2, .int v2), (3, .int v3), (4, .int v4), (5, .int v5), (6, .int v6), (7, .int s.1)] [] s.2 := by
    intro v0 v1 v2 v3 v4 v5 v6
    refine pb_wl_ind (I := fun (s : Int32 × pb_HP) => G 55 [(0, .ref v0), (1, .ref v1), (2, .int v2), (3, .int v3), (4, .int v4), (5, .int v5), (6, .int v6), (7, .int s.1)] [] s.2) (K := fun (e : (Int32 × pb_HP) ⊕ (pb_HP)) => pb_kk (fun (q_ : Int32 × pb_HP) => q_ = (r, hE)) (fun (x_ : pb_HP) => G 152 [(0, .ref v0), (1, .ref v1), (2, .int v2), (3, .int v3), (4, .int v4), (5, .int v5), (6, .int v6)] [] x_) e) (fun s x hf hk => ?_)
    unfold f_114_55s at hf
    refine hG.1 2 55 kb_114_55 _ _ _ rfl ?_
    refine And.intro (fun (hc36 : 6 ≤ s.1) => ?_) (fun (hc36 : ¬ (6 ≤ s.1)) => ?_)
    · rw [if_pos hc36] at hf
      cases hf
      exact hG.2 152 _ [0, 1, 2, 3, 4, 5, 6] _ _ _ rfl hk
    · rw [if_neg hc36] at hf
      refine And.intro (fun (hc35 : ((v4 >>> (v6 &&& 31)) &&& 1) = 0) => ?_) (fun (hc35 : ¬ (((v4 >>> (v6 &&& 31)) &&& 1) = 0)) => ?_)
      · rw [if_pos hc35] at hf
        refine hG.1 3 146 kb_114_146 _ _ _ rfl ?_
        cases hf
        exact hk
      · rw [if_neg hc35] at hf
        refine And.intro (fun (hc34 : ((v5 >>> (s.1 &&& 31)) &&& 1) = 0) => ?_) (fun (hc34 : ¬ (((v5 >>> (s.1 &&& 31)) &&& 1) = 0)) => ?_)
        · rw [if_pos hc34] at hf
          refine hG.1 3 146 kb_114_146 _ _ _ rfl ?_
          cases hf
          exact hk
        · rw [if_neg hc34] at hf
          obtain ⟨hg10, hf⟩ := pb_gd hf
          obtain ⟨q11, eq11, hf⟩ := Option.bind_eq_some_iff.mp hf
          obtain ⟨hg12, hf⟩ := pb_gd hf
          obtain ⟨q13, eq13, hf⟩ := Option.bind_eq_some_iff.mp hf
          obtain ⟨hg14, hf⟩ := pb_gd hf
          obtain ⟨q15, eq15, hf⟩ := Option.bind_eq_some_iff.mp hf
          obtain ⟨hg16, hf⟩ := pb_gd hf
          obtain ⟨hg17, hf⟩ := pb_gd hf
          obtain ⟨hg18, hf⟩ := pb_gd hf
          obtain ⟨hg19, hf⟩ := pb_gd hf
          refine And.intro hg10 (Exists.intro q11 (And.intro eq11 (And.intro hg12 (Exists.intro q13 (And.intro eq13 (And.intro hg14 (Exists.intro q15 (And.intro eq15 (And.intro hg16 (And.intro hg17 (And.intro hg10 (Exists.intro q11 (And.intro eq11 (And.intro hg12 (Exists.intro q13 (And.intro eq13 (And.intro hg14 (Exists.intro q15 (And.intro eq15 (And.intro hg18 (And.intro hg19 (?_))))))))))))))))))))))
          refine pb_hset (E := pb_pI (pb_pI s.2 q13 v2.toNatClampNeg ((pb_I s.2 q15 v2.toNatClampNeg) ^^^ (((1 : Int32) <<< (v6 &&& 31)) ||| ((1 : Int32) <<< (s.1 &&& 31))))) q13 v3.toNatClampNeg ((pb_I (pb_pI s.2 q13 v2.toNatClampNeg ((pb_I s.2 q15 v2.toNatClampNeg) ^^^ (((1 : Int32) <<< (v6 &&& 31)) ||| ((1 : Int32) <<< (s.1 &&& 31))))) q15 v3.toNatClampNeg) ^^^ (((1 : Int32) <<< (v6 &&& 31)) ||| ((1 : Int32) <<< (s.1 &&& 31))))) rfl (fun h20 eh20 => ?_)
          have hf := pb_hbd hf eh20
          have hg21 : pb_is h20 v0 8 := pb_isx eh20 hg10
          have hg22 : pb_is h20 q11 0 := pb_isx eh20 hg12
          have hg23 : pb_is h20 v1 0 := pb_isx eh20 hg14
          have hg24 : pb_ar h20 q15 12 v2 := pb_arx eh20 hg16
          have hg25 : pb_ar h20 q13 12 v2 := pb_arx eh20 hg17
          have hg26 : pb_ar h20 q15 12 v3 := pb_arx eh20 hg18
          have hg27 : pb_ar h20 q13 12 v3 := pb_arx eh20 hg19
          have eq28 : pb_R h20 v0 0 = some q11 := pb_Rx eh20 eq11
          have eq29 : pb_R h20 q11 3 = some q13 := pb_Rx eh20 eq13
          have eq30 : pb_R h20 v1 3 = some q15 := pb_Rx eh20 eq15
          obtain ⟨⟨r31, h32⟩, cr31, hf⟩ := Option.bind_eq_some_iff.mp hf
          try dsimp only at hf
          refine And.intro hg21 (And.intro (Nat.le_of_ble_eq_true rfl) (And.intro (Nat.le_of_ble_eq_true rfl) (Exists.intro (some (.int r31)) (Exists.intro _ (And.intro (l_109 cr31) (?_))))))
          refine And.intro (fun (hc33 : ¬ r31 = v2) => ?_) (fun (hc33 : ¬ (¬ r31 = v2)) => ?_)
          · rw [if_pos hc33] at hf
            refine hG.1 3 146 kb_114_146 _ _ _ rfl ?_
            cases hf
            exact hG.2 55 _ [0, 1, 2, 3, 4, 5, 6, 7] _ _ _ rfl hk
          · rw [if_neg hc33] at hf
            cases hf
            cases hk
            exact And.intro (fun z_ => absurd z_ (by decide)) (And.intro rfl rfl)
  have hl_45 : ∀ (v0 : Nat) (v1 : Nat) (v2 : Int32) (v3 : Int32) (v4 : Int32) (v5 : Int32) (n_ : Nat) (s : Int32 × pb_HP) (e : (Int32 × pb_HP) ⊕ (pb_HP)), pb_wl (f_114_45s N v0 v1 v2 v3 v4 v5) n_ s = some e → pb_kk (fun (q_ : Int32 × pb_HP) => q_ = (r, hE)) (fun (x_ : pb_HP) => G 158 [] [] x_) e → G 45 [(0, .ref v0), (1, .ref v1), (2, .int v2), (3, .int v3), (4, .int v4), (5, .int v5), (6, .int s.1)] [] s.2 := by
    intro v0 v1 v2 v3 v4 v5
    refine pb_wl_ind (I := fun (s : Int32 × pb_HP) => G 45 [(0, .ref v0), (1, .ref v1), (2, .int v2), (3, .int v3), (4, .int v4), (5, .int v5), (6, .int s.1)] [] s.2) (K := fun (e : (Int32 × pb_HP) ⊕ (pb_HP)) => pb_kk (fun (q_ : Int32 × pb_HP) => q_ = (r, hE)) (fun (x_ : pb_HP) => G 158 [] [] x_) e) (fun s x hf hk => ?_)
    unfold f_114_45s at hf
    refine hG.1 1 45 kb_114_45 _ _ _ rfl ?_
    refine And.intro (fun (hc40 : 6 ≤ s.1) => ?_) (fun (hc40 : ¬ (6 ≤ s.1)) => ?_)
    · rw [if_pos hc40] at hf
      cases hf
      exact hG.2 158 _ [] _ _ _ rfl hk
    · rw [if_neg hc40] at hf
      obtain ⟨e37, he_e37, hf⟩ := Option.bind_eq_some_iff.mp hf
      refine hl_55 _ _ _ _ _ _ _ _ _ _ he_e37 ?_
      cases e37 with
      | inl q39 =>
        cases hf
        exact hk
      | inr x38 =>
        try dsimp only at hf
        refine hG.1 4 152 kb_114_152 _ _ _ rfl ?_
        cases hf
        exact hk
  unfold f_114 at hf
  refine hG.1 0 0 kb_114_0 _ _ _ rfl ?_
  obtain ⟨hg1, hf⟩ := pb_gd hf
  obtain ⟨q2, eq2, hf⟩ := Option.bind_eq_some_iff.mp hf
  obtain ⟨hg3, hf⟩ := pb_gd hf
  refine And.intro hg1 (Exists.intro q2 (And.intro eq2 (?_)))
  obtain ⟨h5, cr4, hf⟩ := Option.bind_eq_some_iff.mp hf
  refine And.intro hg3 (And.intro (Nat.le_of_ble_eq_true rfl) (And.intro (Nat.le_of_ble_eq_true rfl) (Exists.intro none (Exists.intro _ (And.intro (l_2 cr4) (?_))))))
  obtain ⟨hg6, hf⟩ := pb_gd hf
  obtain ⟨q7, eq7, hf⟩ := Option.bind_eq_some_iff.mp hf
  obtain ⟨hg8, hf⟩ := pb_gd hf
  obtain ⟨hg9, hf⟩ := pb_gd hf
  refine And.intro hg6 (Exists.intro q7 (And.intro eq7 (And.intro hg8 (And.intro hg6 (Exists.intro q7 (And.intro eq7 (And.intro hg9 (And.intro hg6 (Exists.intro q7 (And.intro eq7 (And.intro hg9 (And.intro hg6 (Exists.intro q7 (And.intro eq7 (And.intro hg8 (?_))))))))))))))))
  obtain ⟨e41, he_e41, hf⟩ := Option.bind_eq_some_iff.mp hf
  refine hl_45 _ _ _ _ _ _ _ _ _ he_e41 ?_
  cases e41 with
  | inl q43 =>
    exact Option.some.inj hf
  | inr x42 =>
    try dsimp only at hf
    refine hG.1 5 158 kb_114_158 _ _ _ rfl ?_
    cases hf
    exact And.intro (fun z_ => absurd z_ (by decide)) (And.intro rfl rfl)
/-- PointedBench.runoff -/
def f_151 (N : Nat) (h : pb_HP) (v0 : Nat) (v1 : Int32) (v2 : Int32) : Option (Int32) :=
  if pb_is h v0 10 then ((pb_R h v0 0).bind fun q2 => (if pb_is h q2 7 then ((f_105 h q2 v1).bind fun r4 => (match r4 with | none => (some ((-1))) | some q5 => (if pb_is h q5 0 then ((f_23 N h q5 v2).bind fun r7 => (some r7)) else none))) else none)) else none
set_option maxRecDepth 4000 in
theorem l_151 {xs : List Int32} {d : Nat} {N : Nat} {h : pb_HP} {v0 : Nat} {v1 : Int32} {v2 : Int32} {r : Int32} (hf : f_151 N h v0 v1 v2 = some r) : pb_AR xs (d + 5) 151 h [.ref v0, .int v1, .int v2] (some (.int r)) h := by
  intro G hG
  have hc_ : pb_CODE 151 = kc_151 := rfl
  rw [hc_] at hG
  unfold f_151 at hf
  refine hG.1 0 0 kb_151_0 _ _ _ rfl ?_
  obtain ⟨hg1, hf⟩ := pb_gd hf
  obtain ⟨q2, eq2, hf⟩ := Option.bind_eq_some_iff.mp hf
  obtain ⟨hg3, hf⟩ := pb_gd hf
  refine And.intro hg1 (Exists.intro q2 (And.intro eq2 (?_)))
  obtain ⟨r4, cr4, hf⟩ := Option.bind_eq_some_iff.mp hf
  refine And.intro hg3 (And.intro (Nat.le_of_ble_eq_true rfl) (And.intro (Nat.le_of_ble_eq_true rfl) (Exists.intro (some (pb_rv r4)) (Exists.intro _ (And.intro (l_105 cr4) (?_))))))
  cases r4 with
  | none =>
    try dsimp only at hf
    refine hG.1 2 22 kb_151_22 _ _ _ rfl ?_
    cases hf
    exact And.intro (fun z_ => absurd z_ (by decide)) (And.intro rfl rfl)
  | some q5 =>
    try dsimp only at hf
    refine hG.1 1 17 kb_151_17 _ _ _ rfl ?_
    obtain ⟨hg6, hf⟩ := pb_gd hf
    obtain ⟨r7, cr7, hf⟩ := Option.bind_eq_some_iff.mp hf
    refine And.intro hg6 (And.intro (Nat.le_of_ble_eq_true rfl) (And.intro (Nat.le_of_ble_eq_true rfl) (Exists.intro (some (.int r7)) (Exists.intro _ (And.intro (l_23 cr7) (?_))))))
    refine hG.1 2 22 kb_151_22 _ _ _ rfl ?_
    cases hf
    exact And.intro (fun z_ => absurd z_ (by decide)) (And.intro rfl rfl)
/-- PointedBench.later -/
def f_156 (N : Nat) (h : pb_HP) (v0 : Nat) (v1 : Int32) (v2 : Int32) (v3 : Int32) : Option (Int32 × pb_HP) :=
  if pb_is h v0 10 then ((pb_R h v0 0).bind fun q2 => (if pb_is h q2 7 then ((f_105 h q2 v1).bind fun r4 => (match r4 with | none => (some (((-1), h))) | some q5 => (if v2 < 0 then (some (((-1), h))) else (if v2 ≤ 30 then ((pb_R h v0 5).bind fun q6 => (if pb_is h q6 8 then ((f_111 N h q6 q5 v2).bind fun h9 => (if v3 = 0 then (if pb_is h9 v0 10 then ((pb_R h9 v0 5).bind fun q11 => (if pb_is h9 q11 8 then ((f_110 N h9 q11).bind fun (r13, h14) => (some ((r13, h14)))) else none)) else none) else (if pb_is h9 v0 10 then ((pb_R h9 v0 5).bind fun q16 => (if pb_is h9 q16 8 then ((f_109 N h9 q16).bind fun (r18, h19) => (some ((r18, h19)))) else none)) else none))) else none)) else (some (((-1), h))))))) else none)) else none
set_option maxRecDepth 4000 in
theorem l_156 {xs : List Int32} {d : Nat} {N : Nat} {h : pb_HP} {v0 : Nat} {v1 : Int32} {v2 : Int32} {v3 : Int32} {r : Int32} {hE : pb_HP} (hf : f_156 N h v0 v1 v2 v3 = some ((r, hE))) : pb_AR xs (d + 5) 156 h [.ref v0, .int v1, .int v2, .int v3] (some (.int r)) hE := by
  intro G hG
  have hc_ : pb_CODE 156 = kc_156 := rfl
  rw [hc_] at hG
  unfold f_156 at hf
  refine hG.1 0 0 kb_156_0 _ _ _ rfl ?_
  obtain ⟨hg1, hf⟩ := pb_gd hf
  obtain ⟨q2, eq2, hf⟩ := Option.bind_eq_some_iff.mp hf
  obtain ⟨hg3, hf⟩ := pb_gd hf
  refine And.intro hg1 (Exists.intro q2 (And.intro eq2 (?_)))
  obtain ⟨r4, cr4, hf⟩ := Option.bind_eq_some_iff.mp hf
  refine And.intro hg3 (And.intro (Nat.le_of_ble_eq_true rfl) (And.intro (Nat.le_of_ble_eq_true rfl) (Exists.intro (some (pb_rv r4)) (Exists.intro _ (And.intro (l_105 cr4) (?_))))))
  cases r4 with
  | none =>
    try dsimp only at hf
    refine hG.1 1 25 kb_156_25 _ _ _ rfl ?_
    cases hf
    exact And.intro (fun z_ => absurd z_ (by decide)) (And.intro rfl rfl)
  | some q5 =>
    try dsimp only at hf
    refine And.intro (fun (hc22 : v2 < 0) => ?_) (fun (hc22 : ¬ (v2 < 0)) => ?_)
    · rw [if_pos hc22] at hf
      refine hG.1 1 25 kb_156_25 _ _ _ rfl ?_
      cases hf
      exact And.intro (fun z_ => absurd z_ (by decide)) (And.intro rfl rfl)
    · rw [if_neg hc22] at hf
      refine And.intro (fun (hc21 : v2 ≤ 30) => ?_) (fun (hc21 : ¬ (v2 ≤ 30)) => ?_)
      · rw [if_pos hc21] at hf
        refine hG.1 2 27 kb_156_27 _ _ _ rfl ?_
        obtain ⟨q6, eq6, hf⟩ := Option.bind_eq_some_iff.mp hf
        obtain ⟨hg7, hf⟩ := pb_gd hf
        refine And.intro hg1 (Exists.intro q6 (And.intro eq6 (?_)))
        obtain ⟨h9, cr8, hf⟩ := Option.bind_eq_some_iff.mp hf
        refine And.intro hg7 (And.intro (Nat.le_of_ble_eq_true rfl) (And.intro (Nat.le_of_ble_eq_true rfl) (Exists.intro none (Exists.intro _ (And.intro (l_111 cr8) (?_))))))
        refine And.intro (fun (hc20 : v3 = 0) => ?_) (fun (hc20 : ¬ (v3 = 0)) => ?_)
        · rw [if_pos hc20] at hf
          refine hG.1 3 51 kb_156_51 _ _ _ rfl ?_
          obtain ⟨hg10, hf⟩ := pb_gd hf
          obtain ⟨q11, eq11, hf⟩ := Option.bind_eq_some_iff.mp hf
          obtain ⟨hg12, hf⟩ := pb_gd hf
          refine And.intro hg10 (Exists.intro q11 (And.intro eq11 (?_)))
          obtain ⟨⟨r13, h14⟩, cr13, hf⟩ := Option.bind_eq_some_iff.mp hf
          try dsimp only at hf
          refine And.intro hg12 (And.intro (Nat.le_of_ble_eq_true rfl) (And.intro (Nat.le_of_ble_eq_true rfl) (Exists.intro (some (.int r13)) (Exists.intro _ (And.intro (l_110 cr13) (?_))))))
          refine hG.1 4 58 kb_156_58 _ _ _ rfl ?_
          cases hf
          exact And.intro (fun z_ => absurd z_ (by decide)) (And.intro rfl rfl)
        · rw [if_neg hc20] at hf
          obtain ⟨hg15, hf⟩ := pb_gd hf
          obtain ⟨q16, eq16, hf⟩ := Option.bind_eq_some_iff.mp hf
          obtain ⟨hg17, hf⟩ := pb_gd hf
          refine And.intro hg15 (Exists.intro q16 (And.intro eq16 (?_)))
          obtain ⟨⟨r18, h19⟩, cr18, hf⟩ := Option.bind_eq_some_iff.mp hf
          try dsimp only at hf
          refine And.intro hg17 (And.intro (Nat.le_of_ble_eq_true rfl) (And.intro (Nat.le_of_ble_eq_true rfl) (Exists.intro (some (.int r18)) (Exists.intro _ (And.intro (l_109 cr18) (?_))))))
          refine hG.1 4 58 kb_156_58 _ _ _ rfl ?_
          cases hf
          exact And.intro (fun z_ => absurd z_ (by decide)) (And.intro rfl rfl)
      · rw [if_neg hc21] at hf
        refine hG.1 1 25 kb_156_25 _ _ _ rfl ?_
        cases hf
        exact And.intro (fun z_ => absurd z_ (by decide)) (And.intro rfl rfl)
/-- PointedBench.odds -/
def f_159 (N : Nat) (h : pb_HP) (v0 : Nat) (v1 : Int32) (v2 : Int32) (v3 : Int32) (v4 : Int32) : Option (Int64 × pb_HP) :=
  if pb_is h v0 10 then ((pb_R h v0 0).bind fun q2 => (if pb_is h q2 7 then ((f_107 h q2 v1).bind fun r4 => (match r4 with | none => (some (((-1), h))) | some q5 => (if v2 < 0 then (some (((-1), h))) else (if 63 < v2 then (some (((-1), h))) else (if v3 < 0 then (some (((-1), h))) else (if v3 ≤ 63 then ((pb_R h v0 9).bind fun q6 => (if pb_is h q6 3 then ((f_60 N h q6 q5).bind fun h9 => (if pb_is h9 v0 10 then ((pb_R h9 v0 9).bind fun q11 => (if pb_is h9 q11 3 then ((f_67 N h9 q11 v2 v3).bind fun r13 => ((f_165 N (Int32.toInt64 r13) (Int32.toInt64 (pb_I h9 q11 0)) v4).bind fun r14 => (some ((r14, h9))))) else none)) else none)) else none)) else (some (((-1), h))))))))) else none)) else none
set_option maxRecDepth 4000 in
theorem l_159 {xs : List Int32} {d : Nat} {N : Nat} {h : pb_HP} {v0 : Nat} {v1 : Int32} {v2 : Int32} {v3 : Int32} {v4 : Int32} {r : Int64} {hE : pb_HP} (hf : f_159 N h v0 v1 v2 v3 v4 = some ((r, hE))) : pb_AR xs (d + 5) 159 h [.ref v0, .int v1, .int v2, .int v3, .int v4] (some (.long r)) hE := by
  intro G hG
  have hc_ : pb_CODE 159 = kc_159 := rfl
  rw [hc_] at hG
  unfold f_159 at hf
  refine hG.1 0 0 kb_159_0 _ _ _ rfl ?_
  obtain ⟨hg1, hf⟩ := pb_gd hf
  obtain ⟨q2, eq2, hf⟩ := Option.bind_eq_some_iff.mp hf
  obtain ⟨hg3, hf⟩ := pb_gd hf
  refine And.intro hg1 (Exists.intro q2 (And.intro eq2 (?_)))
  obtain ⟨r4, cr4, hf⟩ := Option.bind_eq_some_iff.mp hf
  refine And.intro hg3 (And.intro (Nat.le_of_ble_eq_true rfl) (And.intro (Nat.le_of_ble_eq_true rfl) (Exists.intro (some (pb_rv r4)) (Exists.intro _ (And.intro (l_107 cr4) (?_))))))
  cases r4 with
  | none =>
    try dsimp only at hf
    refine hG.1 1 35 kb_159_35 _ _ _ rfl ?_
    cases hf
    exact And.intro rfl rfl
  | some q5 =>
    try dsimp only at hf
    refine And.intro (fun (hc18 : v2 < 0) => ?_) (fun (hc18 : ¬ (v2 < 0)) => ?_)
    · rw [if_pos hc18] at hf
      refine hG.1 1 35 kb_159_35 _ _ _ rfl ?_
      cases hf
      exact And.intro rfl rfl
    · rw [if_neg hc18] at hf
      refine And.intro (fun (hc17 : 63 < v2) => ?_) (fun (hc17 : ¬ (63 < v2)) => ?_)
      · rw [if_pos hc17] at hf
        refine hG.1 1 35 kb_159_35 _ _ _ rfl ?_
        cases hf
        exact And.intro rfl rfl
      · rw [if_neg hc17] at hf
        refine And.intro (fun (hc16 : v3 < 0) => ?_) (fun (hc16 : ¬ (v3 < 0)) => ?_)
        · rw [if_pos hc16] at hf
          refine hG.1 1 35 kb_159_35 _ _ _ rfl ?_
          cases hf
          exact And.intro rfl rfl
        · rw [if_neg hc16] at hf
          refine And.intro (fun (hc15 : v3 ≤ 63) => ?_) (fun (hc15 : ¬ (v3 ≤ 63)) => ?_)
          · rw [if_pos hc15] at hf
            refine hG.1 2 39 kb_159_39 _ _ _ rfl ?_
            obtain ⟨q6, eq6, hf⟩ := Option.bind_eq_some_iff.mp hf
            obtain ⟨hg7, hf⟩ := pb_gd hf
            refine And.intro hg1 (Exists.intro q6 (And.intro eq6 (?_)))
            obtain ⟨h9, cr8, hf⟩ := Option.bind_eq_some_iff.mp hf
            refine And.intro hg7 (And.intro (Nat.le_of_ble_eq_true rfl) (And.intro (Nat.le_of_ble_eq_true rfl) (Exists.intro none (Exists.intro _ (And.intro (l_60 cr8) (?_))))))
            obtain ⟨hg10, hf⟩ := pb_gd hf
            obtain ⟨q11, eq11, hf⟩ := Option.bind_eq_some_iff.mp hf
            obtain ⟨hg12, hf⟩ := pb_gd hf
            refine And.intro hg10 (Exists.intro q11 (And.intro eq11 (?_)))
            obtain ⟨r13, cr13, hf⟩ := Option.bind_eq_some_iff.mp hf
            refine And.intro hg12 (And.intro (Nat.le_of_ble_eq_true rfl) (And.intro (Nat.le_of_ble_eq_true rfl) (Exists.intro (some (.int r13)) (Exists.intro _ (And.intro (l_67 cr13) (?_))))))
            refine And.intro hg10 (Exists.intro q11 (And.intro eq11 (And.intro hg12 (?_))))
            obtain ⟨r14, cr14, hf⟩ := Option.bind_eq_some_iff.mp hf
            refine And.intro (Nat.le_of_ble_eq_true rfl) (And.intro (Nat.le_of_ble_eq_true rfl) (And.intro (Nat.le_of_ble_eq_true rfl) (Exists.intro (some (.long r14)) (Exists.intro _ (And.intro (l_165 cr14) (?_))))))
            cases hf
            exact And.intro rfl rfl
          · rw [if_neg hc15] at hf
            refine hG.1 1 35 kb_159_35 _ _ _ rfl ?_
            cases hf
            exact And.intro rfl rfl
/-- PointedBench.low -/
def f_160 (N : Nat) (h : pb_HP) (v0 : Nat) (v1 : Int32) (v2 : Int32) : Option (Int32 × pb_HP) :=
  if pb_is h v0 10 then ((pb_R h v0 0).bind fun q2 => (if pb_is h q2 7 then ((f_107 h q2 v1).bind fun r4 => (match r4 with | none => (some (((-1), h))) | some q5 => ((pb_R h v0 9).bind fun q6 => (if pb_is h q6 3 then ((f_60 N h q6 q5).bind fun h9 => (if v2 = 0 then (if pb_is h9 v0 10 then ((pb_R h9 v0 9).bind fun q11 => (if pb_is h9 q11 3 then ((f_68 N h9 q11).bind fun r13 => (some ((r13, h9)))) else none)) else none) else (if pb_is h9 v0 10 then ((pb_R h9 v0 9).bind fun q15 => (if pb_is h9 q15 3 then ((f_69 N h9 q15).bind fun r17 => (some ((r17, h9)))) else none)) else none))) else none)))) else none)) else none
set_option maxRecDepth 4000 in
theorem l_160 {xs : List Int32} {d : Nat} {N : Nat} {h : pb_HP} {v0 : Nat} {v1 : Int32} {v2 : Int32} {r : Int32} {hE : pb_HP} (hf : f_160 N h v0 v1 v2 = some ((r, hE))) : pb_AR xs (d + 5) 160 h [.ref v0, .int v1, .int v2] (some (.int r)) hE := by
  intro G hG
  have hc_ : pb_CODE 160 = kc_160 := rfl
  rw [hc_] at hG
  unfold f_160 at hf
  refine hG.1 0 0 kb_160_0 _ _ _ rfl ?_
  obtain ⟨hg1, hf⟩ := pb_gd hf
  obtain ⟨q2, eq2, hf⟩ := Option.bind_eq_some_iff.mp hf
  obtain ⟨hg3, hf⟩ := pb_gd hf
  refine And.intro hg1 (Exists.intro q2 (And.intro eq2 (?_)))
  obtain ⟨r4, cr4, hf⟩ := Option.bind_eq_some_iff.mp hf
  refine And.intro hg3 (And.intro (Nat.le_of_ble_eq_true rfl) (And.intro (Nat.le_of_ble_eq_true rfl) (Exists.intro (some (pb_rv r4)) (Exists.intro _ (And.intro (l_107 cr4) (?_))))))
  cases r4 with
  | none =>
    try dsimp only at hf
    cases hf
    exact And.intro (fun z_ => absurd z_ (by decide)) (And.intro rfl rfl)
  | some q5 =>
    try dsimp only at hf
    refine hG.1 1 15 kb_160_15 _ _ _ rfl ?_
    obtain ⟨q6, eq6, hf⟩ := Option.bind_eq_some_iff.mp hf
    obtain ⟨hg7, hf⟩ := pb_gd hf
    refine And.intro hg1 (Exists.intro q6 (And.intro eq6 (?_)))
    obtain ⟨h9, cr8, hf⟩ := Option.bind_eq_some_iff.mp hf
    refine And.intro hg7 (And.intro (Nat.le_of_ble_eq_true rfl) (And.intro (Nat.le_of_ble_eq_true rfl) (Exists.intro none (Exists.intro _ (And.intro (l_60 cr8) (?_))))))
    refine And.intro (fun (hc18 : v2 = 0) => ?_) (fun (hc18 : ¬ (v2 = 0)) => ?_)
    · rw [if_pos hc18] at hf
      refine hG.1 2 37 kb_160_37 _ _ _ rfl ?_
      obtain ⟨hg10, hf⟩ := pb_gd hf
      obtain ⟨q11, eq11, hf⟩ := Option.bind_eq_some_iff.mp hf
      obtain ⟨hg12, hf⟩ := pb_gd hf
      refine And.intro hg10 (Exists.intro q11 (And.intro eq11 (?_)))
      obtain ⟨r13, cr13, hf⟩ := Option.bind_eq_some_iff.mp hf
      refine And.intro hg12 (And.intro (Nat.le_of_ble_eq_true rfl) (And.intro (Nat.le_of_ble_eq_true rfl) (Exists.intro (some (.int r13)) (Exists.intro _ (And.intro (l_68 cr13) (?_))))))
      refine hG.1 3 44 kb_160_44 _ _ _ rfl ?_
      cases hf
      exact And.intro (fun z_ => absurd z_ (by decide)) (And.intro rfl rfl)
    · rw [if_neg hc18] at hf
      obtain ⟨hg14, hf⟩ := pb_gd hf
      obtain ⟨q15, eq15, hf⟩ := Option.bind_eq_some_iff.mp hf
      obtain ⟨hg16, hf⟩ := pb_gd hf
      refine And.intro hg14 (Exists.intro q15 (And.intro eq15 (?_)))
      obtain ⟨r17, cr17, hf⟩ := Option.bind_eq_some_iff.mp hf
      refine And.intro hg16 (And.intro (Nat.le_of_ble_eq_true rfl) (And.intro (Nat.le_of_ble_eq_true rfl) (Exists.intro (some (.int r17)) (Exists.intro _ (And.intro (l_69 cr17) (?_))))))
      refine hG.1 3 44 kb_160_44 _ _ _ rfl ?_
      cases hf
      exact And.intro (fun z_ => absurd z_ (by decide)) (And.intro rfl rfl)
def f_187_240 (N : Nat) (h : pb_HP) (v0 : Nat) (s0 : Int32) (s1 : Nat) : Option (Int32 × pb_HP) :=
  if pb_is h v0 11 then ((pb_R h v0 19).bind fun q21 => (if pb_ar h q21 12 0 then (if pb_ar h s1 12 (s0 + (pb_I h q21 (0 : Int32).toNatClampNeg)) then (if pb_ar h q21 12 1 then (pb_hb (pb_pI h s1 (s0 + (pb_I h q21 (0 : Int32).toNatClampNeg)).toNatClampNeg ((pb_I h s1 (s0 + (pb_I h q21 (0 : Int32).toNatClampNeg)).toNatClampNeg) ||| ((1 : Int32) <<< ((pb_I h q21 (1 : Int32).toNatClampNeg) &&& 31)))) fun h25 => (some ((1, h25)))) else none) else none) else none)) else none
def f_187_214 (N : Nat) (h : pb_HP) (v0 : Nat) (v1 : Int64) : Option (Int32 × pb_HP) :=
  if pb_is h v0 11 then (if (pb_I h v0 22) = 0 then (some ((1, h))) else ((pb_R h v0 18).bind fun q19 => (if ¬ (lg_cmp v1 6840691) = 0 then (f_187_240 N h v0 26 q19) else (f_187_240 N h v0 8 q19)))) else none
def f_187_163 (N : Nat) (h : pb_HP) (v0 : Nat) (v1 : Int64) (s0 : Int32) (s1 : Nat) : Option (Int32 × pb_HP) :=
  if pb_is h s1 11 then (if pb_is h v0 11 then (if (pb_I (pb_pI h s1 21 s0) v0 22) = 0 then (f_187_214 N (pb_pI h s1 21 s0) v0 v1) else (if ¬ (lg_cmp v1 465625113971) = 0 then (f_187_214 N (pb_pI h s1 21 s0) v0 v1) else ((pb_R h v0 18).bind fun q33 => ((pb_R h v0 19).bind fun q34 => (if pb_ar h q34 12 0 then (if pb_ar h q34 12 1 then (if pb_ar h q34 12 2 then (if pb_ar h q33 12 ((32 + (6 * (pb_I (pb_pI h s1 21 s0) q34 (0 : Int32).toNatClampNeg))) + (pb_I (pb_pI h s1 21 s0) q34 (1 : Int32).toNatClampNeg)) then (pb_hb (pb_pI (pb_pI h s1 21 s0) q33 ((32 + (6 * (pb_I (pb_pI h s1 21 s0) q34 (0 : Int32).toNatClampNeg))) + (pb_I (pb_pI h s1 21 s0) q34 (1 : Int32).toNatClampNeg)).toNatClampNeg (pb_I (pb_pI h s1 21 s0) q34 (2 : Int32).toNatClampNeg)) fun h39 => (some ((1, h39)))) else none) else none) else none) else none))))) else none) else none
def f_187_131 (N : Nat) (h : pb_HP) (v0 : Nat) (v1 : Int64) (s0 : Int32) (s1 : Nat) : Option (Int32 × pb_HP) :=
  if pb_is h s1 11 then (if ¬ (lg_cmp v1 6840691) = 0 then (if pb_is h v0 11 then ((pb_R h v0 19).bind fun q13 => (if pb_ar h q13 12 0 then ((f_170 (pb_I (pb_pI h s1 20 s0) v0 21) (pb_I (pb_pI h s1 20 s0) q13 (0 : Int32).toNatClampNeg)).bind fun r15 => (f_187_163 N (pb_pI h s1 20 s0) v0 v1 r15 v0)) else none)) else none) else (if pb_is h v0 11 then (f_187_163 N (pb_pI h s1 20 s0) v0 v1 (pb_I (pb_pI h s1 20 s0) v0 21) v0) else none)) else none
def f_187_102 (N : Nat) (h : pb_HP) (v0 : Nat) (v1 : Int64) : Option (Int32 × pb_HP) :=
  if ¬ (lg_cmp v1 6840691) = 0 then (if pb_is h v0 11 then (f_187_131 N h v0 v1 (pb_I h v0 20) v0) else none) else (if pb_is h v0 11 then ((pb_R h v0 19).bind fun q53 => (if pb_ar h q53 12 0 then ((f_170 (pb_I h v0 20) (pb_I h q53 (0 : Int32).toNatClampNeg)).bind fun r55 => (f_187_131 N h v0 v1 r55 v0)) else none)) else none)
def f_187_57 (N : Nat) (h : pb_HP) (v0 : Nat) (v1 : Int64) : Option (Int32 × pb_HP) :=
  if pb_is h v0 11 then ((f_180 N h v0).bind fun h3 => (if pb_is h3 v0 11 then ((f_183 N h3 v0 0 0 5).bind fun (r5, h6) => (if r5 = 0 then (some ((0, h6))) else (if pb_is h6 v0 11 then ((f_183 N h6 v0 1 0 5).bind fun (r8, h9) => (if r8 = 0 then (some ((0, h9))) else (if ¬ (lg_cmp v1 465625113971) = 0 then (f_187_102 N h9 v0 v1) else (if pb_is h9 v0 11 then ((f_183 N h9 v0 2 0 9).bind fun (r58, h59) => (if ¬ r58 = 0 then (f_187_102 N h59 v0 v1) else (some ((0, h59))))) else none)))) else none))) else none)) else none
/-- PointedBenchModel.countyLine -/
def f_187 (N : Nat) (h : pb_HP) (v0 : Nat) (v1 : Int64) (v3 : Int32) : Option (Int32 × pb_HP) :=
  if ¬ (lg_cmp v1 7168366) = 0 then (if ¬ (lg_cmp v1 426953501796) = 0 then (if (lg_cmp v1 6840691) = 0 then (f_187_57 N h v0 v1) else (if (lg_cmp v1 439787549299) = 0 then (f_187_57 N h v0 v1) else (if (lg_cmp v1 465625113971) = 0 then (f_187_57 N h v0 v1) else (if pb_is h v0 11 then ((f_181 h v0).bind fun (r65, h66) => (if r65 = 0 ∨ r65 = 1 then (some ((r65, h66))) else none)) else none)))) else (if pb_is h v0 11 then ((f_186 N h v0 v3).bind fun (r72, h73) => (if r72 = 0 ∨ r72 = 1 then (some ((r72, h73))) else none)) else none)) else (if pb_is h v0 11 then ((f_185 N h v0 v3).bind fun (r77, h78) => (if r77 = 0 ∨ r77 = 1 then (some ((r77, h78))) else none)) else none)
set_option maxRecDepth 4000 in
theorem l_187 {xs : List Int32} {d : Nat} {N : Nat} {h : pb_HP} {v0 : Nat} {v1 : Int64} {v3 : Int32} {r : Int32} {hE : pb_HP} (hf : f_187 N h v0 v1 v3 = some ((r, hE))) : pb_AR xs (d + 5) 187 h [.ref v0, .long v1, .int v3] (some (.int r)) hE := by
  intro G hG
  have hc_ : pb_CODE 187 = kc_187 := rfl
  rw [hc_] at hG
  have hj_240 : ∀ (h : pb_HP) (v0 : Nat) (s0 : Int32) (s1 : Nat), f_187_240 N h v0 s0 s1 = some ((r, hE)) → G 240 [(0, .ref v0)] [.int s0, .ref s1] h := by
    intro h v0 s0 s1 hf
    unfold f_187_240 at hf
    refine hG.1 12 240 kb_187_240 _ _ _ rfl ?_
    obtain ⟨hg20, hf⟩ := pb_gd hf
    obtain ⟨q21, eq21, hf⟩ := Option.bind_eq_some_iff.mp hf
    obtain ⟨hg22, hf⟩ := pb_gd hf
    obtain ⟨hg23, hf⟩ := pb_gd hf
    obtain ⟨hg24, hf⟩ := pb_gd hf
    refine And.intro hg20 (Exists.intro q21 (And.intro eq21 (And.intro hg22 (And.intro hg23 (And.intro hg20 (Exists.intro q21 (And.intro eq21 (And.intro hg24 (And.intro hg23 (?_))))))))))
    refine pb_hset (E := pb_pI h s1 (s0 + (pb_I h q21 (0 : Int32).toNatClampNeg)).toNatClampNeg ((pb_I h s1 (s0 + (pb_I h q21 (0 : Int32).toNatClampNeg)).toNatClampNeg) ||| ((1 : Int32) <<< ((pb_I h q21 (1 : Int32).toNatClampNeg) &&& 31)))) rfl (fun h25 eh25 => ?_)
    have hf := pb_hbd hf eh25
    have hg26 : pb_is h25 v0 11 := pb_isx eh25 hg20
    have hg27 : pb_ar h25 q21 12 0 := pb_arx eh25 hg22
    have hg28 : pb_ar h25 s1 12 (s0 + (pb_I h q21 (0 : Int32).toNatClampNeg)) := pb_arx eh25 hg23
    have hg29 : pb_ar h25 q21 12 1 := pb_arx eh25 hg24
    have eq30 : pb_R h25 v0 19 = some q21 := pb_Rx eh25 eq21
    refine hG.1 13 259 kb_187_259 _ _ _ rfl ?_
    cases hf
    exact And.intro (fun _ => Or.inr rfl) (And.intro rfl rfl)
  have hj_214 : ∀ (h : pb_HP) (v0 : Nat) (v1 : Int64), f_187_214 N h v0 v1 = some ((r, hE)) → G 214 [(0, .ref v0), (1, .long v1)] [] h := by
    intro h v0 v1 hf
    unfold f_187_214 at hf
    refine hG.1 10 214 kb_187_214 _ _ _ rfl ?_
    obtain ⟨hg18, hf⟩ := pb_gd hf
    refine And.intro hg18 (?_)
    refine And.intro (fun (hc32 : (pb_I h v0 22) = 0) => ?_) (fun (hc32 : ¬ ((pb_I h v0 22) = 0)) => ?_)
    · rw [if_pos hc32] at hf
      refine hG.1 13 259 kb_187_259 _ _ _ rfl ?_
      cases hf
      exact And.intro (fun _ => Or.inr rfl) (And.intro rfl rfl)
    · rw [if_neg hc32] at hf
      obtain ⟨q19, eq19, hf⟩ := Option.bind_eq_some_iff.mp hf
      refine And.intro hg18 (Exists.intro q19 (And.intro eq19 (?_)))
      refine And.intro (fun (hc31 : ¬ (lg_cmp v1 6840691) = 0) => ?_) (fun (hc31 : ¬ (¬ (lg_cmp v1 6840691) = 0)) => ?_)
      · rw [if_pos hc31] at hf
        refine hG.1 11 238 kb_187_238 _ _ _ rfl ?_
        refine hG.2 240 _ [0] _ _ _ rfl ?_
        exact hj_240 _ _ _ _ hf
      · rw [if_neg hc31] at hf
        refine hG.2 240 _ [0] _ _ _ rfl ?_
        exact hj_240 _ _ _ _ hf
  have hj_163 : ∀ (h : pb_HP) (v0 : Nat) (v1 : Int64) (s0 : Int32) (s1 : Nat), f_187_163 N h v0 v1 s0 s1 = some ((r, hE)) → G 163 [(0, .ref v0), (1, .long v1)] [.int s0, .ref s1] h := by
    intro h v0 v1 s0 s1 hf
    unfold f_187_163 at hf
    refine hG.1 9 163 kb_187_163 _ _ _ rfl ?_
    obtain ⟨hg16, hf⟩ := pb_gd hf
    obtain ⟨hg17, hf⟩ := pb_gd hf
    refine And.intro hg16 (And.intro hg17 (?_))
    refine And.intro (fun (hc49 : (pb_I (pb_pI h s1 21 s0) v0 22) = 0) => ?_) (fun (hc49 : ¬ ((pb_I (pb_pI h s1 21 s0) v0 22) = 0)) => ?_)
    · rw [if_pos hc49] at hf
      exact hj_214 _ _ _ hf
    · rw [if_neg hc49] at hf
      refine And.intro (fun (hc48 : ¬ (lg_cmp v1 465625113971) = 0) => ?_) (fun (hc48 : ¬ (¬ (lg_cmp v1 465625113971) = 0)) => ?_)
      · rw [if_pos hc48] at hf
        exact hj_214 _ _ _ hf
      · rw [if_neg hc48] at hf
        obtain ⟨q33, eq33, hf⟩ := Option.bind_eq_some_iff.mp hf
        obtain ⟨q34, eq34, hf⟩ := Option.bind_eq_some_iff.mp hf
        obtain ⟨hg35, hf⟩ := pb_gd hf
        obtain ⟨hg36, hf⟩ := pb_gd hf
        obtain ⟨hg37, hf⟩ := pb_gd hf
        obtain ⟨hg38, hf⟩ := pb_gd hf
        refine And.intro hg17 (Exists.intro q33 (And.intro eq33 (And.intro hg17 (Exists.intro q34 (And.intro eq34 (And.intro hg35 (And.intro hg17 (Exists.intro q34 (And.intro eq34 (And.intro hg36 (And.intro hg17 (Exists.intro q34 (And.intro eq34 (And.intro hg37 (And.intro hg38 (?_))))))))))))))))
        refine pb_hset (E := pb_pI (pb_pI h s1 21 s0) q33 ((32 + (6 * (pb_I (pb_pI h s1 21 s0) q34 (0 : Int32).toNatClampNeg))) + (pb_I (pb_pI h s1 21 s0) q34 (1 : Int32).toNatClampNeg)).toNatClampNeg (pb_I (pb_pI h s1 21 s0) q34 (2 : Int32).toNatClampNeg)) rfl (fun h39 eh39 => ?_)
        have hf := pb_hbd hf eh39
        have hg40 : pb_is h39 s1 11 := pb_isx eh39 hg16
        have hg41 : pb_is h39 v0 11 := pb_isx eh39 hg17
        have hg42 : pb_ar h39 q34 12 0 := pb_arx eh39 hg35
        have hg43 : pb_ar h39 q34 12 1 := pb_arx eh39 hg36
        have hg44 : pb_ar h39 q34 12 2 := pb_arx eh39 hg37
        have hg45 : pb_ar h39 q33 12 ((32 + (6 * (pb_I (pb_pI h s1 21 s0) q34 (0 : Int32).toNatClampNeg))) + (pb_I (pb_pI h s1 21 s0) q34 (1 : Int32).toNatClampNeg)) := pb_arx eh39 hg38
        have eq46 : pb_R h39 v0 18 = some q33 := pb_Rx eh39 eq33
        have eq47 : pb_R h39 v0 19 = some q34 := pb_Rx eh39 eq34
        refine hG.1 13 259 kb_187_259 _ _ _ rfl ?_
        cases hf
        exact And.intro (fun _ => Or.inr rfl) (And.intro rfl rfl)
  have hj_131 : ∀ (h : pb_HP) (v0 : Nat) (v1 : Int64) (s0 : Int32) (s1 : Nat), f_187_131 N h v0 v1 s0 s1 = some ((r, hE)) → G 131 [(0, .ref v0), (1, .long v1)] [.int s0, .ref s1] h := by
    intro h v0 v1 s0 s1 hf
    unfold f_187_131 at hf
    refine hG.1 7 131 kb_187_131 _ _ _ rfl ?_
    obtain ⟨hg11, hf⟩ := pb_gd hf
    refine And.intro hg11 (?_)
    refine And.intro (fun (hc51 : ¬ (lg_cmp v1 6840691) = 0) => ?_) (fun (hc51 : ¬ (¬ (lg_cmp v1 6840691) = 0)) => ?_)
    · rw [if_pos hc51] at hf
      refine hG.1 8 150 kb_187_150 _ _ _ rfl ?_
      obtain ⟨hg12, hf⟩ := pb_gd hf
      obtain ⟨q13, eq13, hf⟩ := Option.bind_eq_some_iff.mp hf
      obtain ⟨hg14, hf⟩ := pb_gd hf
      refine And.intro hg12 (And.intro hg12 (Exists.intro q13 (And.intro eq13 (And.intro hg14 (?_)))))
      obtain ⟨r15, cr15, hf⟩ := Option.bind_eq_some_iff.mp hf
      refine And.intro (Nat.le_of_ble_eq_true rfl) (And.intro (Nat.le_of_ble_eq_true rfl) (And.intro (Nat.le_of_ble_eq_true rfl) (Exists.intro (some (.int r15)) (Exists.intro _ (And.intro (l_170 cr15) (?_))))))
      exact hj_163 _ _ _ _ _ hf
    · rw [if_neg hc51] at hf
      obtain ⟨hg50, hf⟩ := pb_gd hf
      refine And.intro hg50 (?_)
      exact hj_163 _ _ _ _ _ hf
  have hj_102 : ∀ (h : pb_HP) (v0 : Nat) (v1 : Int64), f_187_102 N h v0 v1 = some ((r, hE)) → G 102 [(0, .ref v0), (1, .long v1)] [] h := by
    intro h v0 v1 hf
    unfold f_187_102 at hf
    refine hG.1 5 102 kb_187_102 _ _ _ rfl ?_
    refine And.intro (fun (hc56 : ¬ (lg_cmp v1 6840691) = 0) => ?_) (fun (hc56 : ¬ (¬ (lg_cmp v1 6840691) = 0)) => ?_)
    · rw [if_pos hc56] at hf
      refine hG.1 6 127 kb_187_127 _ _ _ rfl ?_
      obtain ⟨hg10, hf⟩ := pb_gd hf
      refine And.intro hg10 (?_)
      exact hj_131 _ _ _ _ _ hf
    · rw [if_neg hc56] at hf
      obtain ⟨hg52, hf⟩ := pb_gd hf
      obtain ⟨q53, eq53, hf⟩ := Option.bind_eq_some_iff.mp hf
      obtain ⟨hg54, hf⟩ := pb_gd hf
      refine And.intro hg52 (And.intro hg52 (Exists.intro q53 (And.intro eq53 (And.intro hg54 (?_)))))
      obtain ⟨r55, cr55, hf⟩ := Option.bind_eq_some_iff.mp hf
      refine And.intro (Nat.le_of_ble_eq_true rfl) (And.intro (Nat.le_of_ble_eq_true rfl) (And.intro (Nat.le_of_ble_eq_true rfl) (Exists.intro (some (.int r55)) (Exists.intro _ (And.intro (l_170 cr55) (?_))))))
      exact hj_131 _ _ _ _ _ hf
  have hj_57 : ∀ (h : pb_HP) (v0 : Nat) (v1 : Int64), f_187_57 N h v0 v1 = some ((r, hE)) → G 57 [(0, .ref v0), (1, .long v1)] [] h := by
    intro h v0 v1 hf
    unfold f_187_57 at hf
    refine hG.1 3 57 kb_187_57 _ _ _ rfl ?_
    obtain ⟨hg1, hf⟩ := pb_gd hf
    obtain ⟨h3, cr2, hf⟩ := Option.bind_eq_some_iff.mp hf
    refine And.intro hg1 (And.intro (Nat.le_of_ble_eq_true rfl) (And.intro (Nat.le_of_ble_eq_true rfl) (Exists.intro none (Exists.intro _ (And.intro (l_180 cr2) (?_))))))
    obtain ⟨hg4, hf⟩ := pb_gd hf
    obtain ⟨⟨r5, h6⟩, cr5, hf⟩ := Option.bind_eq_some_iff.mp hf
    try dsimp only at hf
    refine And.intro hg4 (And.intro (Nat.le_of_ble_eq_true rfl) (And.intro (Nat.le_of_ble_eq_true rfl) (Exists.intro (some (.int r5)) (Exists.intro _ (And.intro (l_183 cr5) (?_))))))
    refine And.intro (fun (hc63 : r5 = 0) => ?_) (fun (hc63 : ¬ (r5 = 0)) => ?_)
    · rw [if_pos hc63] at hf
      refine hG.1 4 100 kb_187_100 _ _ _ rfl ?_
      cases hf
      exact And.intro (fun _ => Or.inl rfl) (And.intro rfl rfl)
    · rw [if_neg hc63] at hf
      obtain ⟨hg7, hf⟩ := pb_gd hf
      obtain ⟨⟨r8, h9⟩, cr8, hf⟩ := Option.bind_eq_some_iff.mp hf
      try dsimp only at hf
      refine And.intro hg7 (And.intro (Nat.le_of_ble_eq_true rfl) (And.intro (Nat.le_of_ble_eq_true rfl) (Exists.intro (some (.int r8)) (Exists.intro _ (And.intro (l_183 cr8) (?_))))))
      refine And.intro (fun (hc62 : r8 = 0) => ?_) (fun (hc62 : ¬ (r8 = 0)) => ?_)
      · rw [if_pos hc62] at hf
        refine hG.1 4 100 kb_187_100 _ _ _ rfl ?_
        cases hf
        exact And.intro (fun _ => Or.inl rfl) (And.intro rfl rfl)
      · rw [if_neg hc62] at hf
        refine And.intro (fun (hc61 : ¬ (lg_cmp v1 465625113971) = 0) => ?_) (fun (hc61 : ¬ (¬ (lg_cmp v1 465625113971) = 0)) => ?_)
        · rw [if_pos hc61] at hf
          exact hj_102 _ _ _ hf
        · rw [if_neg hc61] at hf
          obtain ⟨hg57, hf⟩ := pb_gd hf
          obtain ⟨⟨r58, h59⟩, cr58, hf⟩ := Option.bind_eq_some_iff.mp hf
          try dsimp only at hf
          refine And.intro hg57 (And.intro (Nat.le_of_ble_eq_true rfl) (And.intro (Nat.le_of_ble_eq_true rfl) (Exists.intro (some (.int r58)) (Exists.intro _ (And.intro (l_183 cr58) (?_))))))
          refine And.intro (fun (hc60 : ¬ r58 = 0) => ?_) (fun (hc60 : ¬ (¬ r58 = 0)) => ?_)
          · rw [if_pos hc60] at hf
            exact hj_102 _ _ _ hf
          · rw [if_neg hc60] at hf
            refine hG.1 4 100 kb_187_100 _ _ _ rfl ?_
            cases hf
            exact And.intro (fun _ => Or.inl rfl) (And.intro rfl rfl)
  unfold f_187 at hf
  refine hG.1 0 0 kb_187_0 _ _ _ rfl ?_
  refine And.intro (fun (hc80 : ¬ (lg_cmp v1 7168366) = 0) => ?_) (fun (hc80 : ¬ (¬ (lg_cmp v1 7168366) = 0)) => ?_)
  · rw [if_pos hc80] at hf
    refine hG.1 1 14 kb_187_14 _ _ _ rfl ?_
    refine And.intro (fun (hc75 : ¬ (lg_cmp v1 426953501796) = 0) => ?_) (fun (hc75 : ¬ (¬ (lg_cmp v1 426953501796) = 0)) => ?_)
    · rw [if_pos hc75] at hf
      refine hG.1 2 28 kb_187_28 _ _ _ rfl ?_
      refine And.intro (fun (hc70 : (lg_cmp v1 6840691) = 0) => ?_) (fun (hc70 : ¬ ((lg_cmp v1 6840691) = 0)) => ?_)
      · rw [if_pos hc70] at hf
        refine hG.2 57 _ [0, 1] _ _ _ rfl ?_
        exact hj_57 _ _ _ hf
      · rw [if_neg hc70] at hf
        refine And.intro (fun (hc69 : (lg_cmp v1 439787549299) = 0) => ?_) (fun (hc69 : ¬ ((lg_cmp v1 439787549299) = 0)) => ?_)
        · rw [if_pos hc69] at hf
          refine hG.2 57 _ [0, 1] _ _ _ rfl ?_
          exact hj_57 _ _ _ hf
        · rw [if_neg hc69] at hf
          refine And.intro (fun (hc68 : (lg_cmp v1 465625113971) = 0) => ?_) (fun (hc68 : ¬ ((lg_cmp v1 465625113971) = 0)) => ?_)
          · rw [if_pos hc68] at hf
            refine hG.2 57 _ [0, 1] _ _ _ rfl ?_
            exact hj_57 _ _ _ hf
          · rw [if_neg hc68] at hf
            obtain ⟨hg64, hf⟩ := pb_gd hf
            obtain ⟨⟨r65, h66⟩, cr65, hf⟩ := Option.bind_eq_some_iff.mp hf
            try dsimp only at hf
            refine And.intro hg64 (And.intro (Nat.le_of_ble_eq_true rfl) (And.intro (Nat.le_of_ble_eq_true rfl) (Exists.intro (some (.int r65)) (Exists.intro _ (And.intro (l_181 cr65) (?_))))))
            obtain ⟨hg67, hf⟩ := pb_gd hf
            cases hf
            exact And.intro (fun _ => hg67) (And.intro rfl rfl)
    · rw [if_neg hc75] at hf
      obtain ⟨hg71, hf⟩ := pb_gd hf
      obtain ⟨⟨r72, h73⟩, cr72, hf⟩ := Option.bind_eq_some_iff.mp hf
      try dsimp only at hf
      refine And.intro hg71 (And.intro (Nat.le_of_ble_eq_true rfl) (And.intro (Nat.le_of_ble_eq_true rfl) (Exists.intro (some (.int r72)) (Exists.intro _ (And.intro (l_186 cr72) (?_))))))
      obtain ⟨hg74, hf⟩ := pb_gd hf
      cases hf
      exact And.intro (fun _ => hg74) (And.intro rfl rfl)
  · rw [if_neg hc80] at hf
    obtain ⟨hg76, hf⟩ := pb_gd hf
    obtain ⟨⟨r77, h78⟩, cr77, hf⟩ := Option.bind_eq_some_iff.mp hf
    try dsimp only at hf
    refine And.intro hg76 (And.intro (Nat.le_of_ble_eq_true rfl) (And.intro (Nat.le_of_ble_eq_true rfl) (Exists.intro (some (.int r77)) (Exists.intro _ (And.intro (l_185 cr77) (?_))))))
    obtain ⟨hg79, hf⟩ := pb_gd hf
    cases hf
    exact And.intro (fun _ => hg79) (And.intro rfl rfl)
def f_208_31 (N : Nat) (h : pb_HP) (v0 : Nat) (v1 : Int32) (s0 : Int32) (s1 : Int32) (s2 : Nat) : Option ((Int32 × pb_HP) ⊕ (pb_HP)) :=
  if pb_ar h s2 12 s1 then (some (.inl ((v1 + 1, pb_pI h s2 s1.toNatClampNeg s0)))) else none
def f_208_2s (N : Nat) (v0 : Nat) (s : Int32 × pb_HP) : Option ((Int32 × pb_HP) ⊕ (pb_HP)) :=
  if 6 ≤ s.1 then (some (.inr s.2)) else (if pb_is s.2 v0 11 then ((pb_R s.2 v0 35).bind fun q2 => (if (pb_I s.2 v0 25) ≤ s.1 then (f_208_31 N s.2 v0 s.1 6 s.1 q2) else ((f_207 N s.2 v0 s.1).bind fun r4 => (f_208_31 N s.2 v0 s.1 r4 s.1 q2)))) else none)
/-- PointedBenchModel.layPoints -/
def f_208 (N : Nat) (h : pb_HP) (v0 : Nat) : Option (pb_HP) :=
  (pb_wl (f_208_2s N v0) N ((0, h))).bind fun e7 => (some e7)
set_option maxRecDepth 4000 in
theorem l_208 {xs : List Int32} {d : Nat} {N : Nat} {h : pb_HP} {v0 : Nat} {hE : pb_HP} (hf : f_208 N h v0 = some hE) : pb_AR xs (d + 5) 208 h [.ref v0] none hE := by
  intro G hG
  have hc_ : pb_CODE 208 = kc_208 := rfl
  rw [hc_] at hG
  have hj_31 : ∀ (h : pb_HP) (v0 : Nat) (v1 : Int32) (s0 : Int32) (s1 : Int32) (s2 : Nat) x, f_208_31 N h v0 v1 s0 s1 s2 = some x → pb_kk (fun (s_ : Int32 × pb_HP) => G 2 [(0, .ref v0), (1, .int s_.1)] [] s_.2) (fun (e_ : pb_HP) => G 38 [] [] e_) x → G 31 [(0, .ref v0), (1, .int v1)] [.int s0, .int s1, .ref s2] h := by
    intro h v0 v1 s0 s1 s2 x hf hk
    unfold f_208_31 at hf
    refine hG.1 3 31 kb_208_31 _ _ _ rfl ?_
    obtain ⟨hg3, hf⟩ := pb_gd hf
    refine And.intro hg3 (?_)
    cases hf
    exact hk
  have hl_2 : ∀ (v0 : Nat) (n_ : Nat) (s : Int32 × pb_HP) (e : pb_HP), pb_wl (f_208_2s N v0) n_ s = some e → G 38 [] [] e → G 2 [(0, .ref v0), (1, .int s.1)] [] s.2 := by
    intro v0
    refine pb_wl_ind (I := fun (s : Int32 × pb_HP) => G 2 [(0, .ref v0), (1, .int s.1)] [] s.2) (K := fun (e : pb_HP) => G 38 [] [] e) (fun s x hf hk => ?_)
    unfold f_208_2s at hf
    refine hG.1 1 2 kb_208_2 _ _ _ rfl ?_
    refine And.intro (fun (hc6 : 6 ≤ s.1) => ?_) (fun (hc6 : ¬ (6 ≤ s.1)) => ?_)
    · rw [if_pos hc6] at hf
      cases hf
      exact hG.2 38 _ [] _ _ _ rfl hk
    · rw [if_neg hc6] at hf
      obtain ⟨hg1, hf⟩ := pb_gd hf
      obtain ⟨q2, eq2, hf⟩ := Option.bind_eq_some_iff.mp hf
      refine And.intro hg1 (Exists.intro q2 (And.intro eq2 (And.intro hg1 (?_))))
      refine And.intro (fun (hc5 : (pb_I s.2 v0 25) ≤ s.1) => ?_) (fun (hc5 : ¬ ((pb_I s.2 v0 25) ≤ s.1)) => ?_)
      · rw [if_pos hc5] at hf
        refine hG.1 2 29 kb_208_29 _ _ _ rfl ?_
        exact hj_31 _ _ _ _ _ _ _ hf hk
      · rw [if_neg hc5] at hf
        obtain ⟨r4, cr4, hf⟩ := Option.bind_eq_some_iff.mp hf
        refine And.intro hg1 (And.intro (Nat.le_of_ble_eq_true rfl) (And.intro (Nat.le_of_ble_eq_true rfl) (Exists.intro (some (.int r4)) (Exists.intro _ (And.intro (l_207 cr4) (?_))))))
        exact hj_31 _ _ _ _ _ _ _ hf hk
  unfold f_208 at hf
  refine hG.1 0 0 kb_208_0 _ _ _ rfl ?_
  obtain ⟨e7, he_e7, hf⟩ := Option.bind_eq_some_iff.mp hf
  refine hl_2 _ _ _ _ he_e7 ?_
  refine hG.1 4 38 kb_208_38 _ _ _ rfl ?_
  cases hf
  exact And.intro rfl rfl
/-- PointedBenchModel.ofOne -/
def f_225 (N : Nat) (h : pb_HP) (v0 : Nat) (v1 : Int32) : Option (Int32) :=
  if (v1 / 10) = 1 then (if pb_is h v0 11 then (if (pb_I h v0 24) ≤ (v1 - v1 / 10 * 10) then (some ((-1))) else ((pb_R h v0 30).bind fun q3 => (if pb_ar h q3 12 (v1 - v1 / 10 * 10) then (some (pb_I h q3 (v1 - v1 / 10 * 10).toNatClampNeg)) else none))) else none) else if (v1 / 10) = 2 then (if pb_is h v0 11 then (if (pb_I h v0 25) ≤ (v1 - v1 / 10 * 10) then (some ((-1))) else ((pb_R h v0 31).bind fun q8 => (if pb_ar h q8 12 (v1 - v1 / 10 * 10) then (some (pb_I h q8 (v1 - v1 / 10 * 10).toNatClampNeg)) else none))) else none) else if (v1 / 10) = 3 then (if pb_is h v0 11 then (if (pb_I h v0 25) ≤ (v1 - v1 / 10 * 10) then (some ((-1))) else ((pb_R h v0 32).bind fun q13 => (if pb_ar h q13 12 (v1 - v1 / 10 * 10) then (some (pb_I h q13 (v1 - v1 / 10 * 10).toNatClampNeg)) else none))) else none) else if (v1 / 10) = 4 then (if pb_is h v0 11 then (if (pb_I h v0 25) ≤ (v1 - v1 / 10 * 10) then (some ((-1))) else ((pb_R h v0 33).bind fun q18 => (if pb_ar h q18 12 (v1 - v1 / 10 * 10) then (some (pb_I h q18 (v1 - v1 / 10 * 10).toNatClampNeg)) else none))) else none) else if (v1 / 10) = 5 then (if pb_is h v0 11 then (if (pb_I h v0 25) ≤ (v1 - v1 / 10 * 10) then (some ((-1))) else ((f_207 N h v0 (v1 - v1 / 10 * 10)).bind fun r23 => (some r23))) else none) else (some ((-1)))
set_option maxRecDepth 4000 in
theorem l_225 {xs : List Int32} {d : Nat} {N : Nat} {h : pb_HP} {v0 : Nat} {v1 : Int32} {r : Int32} (hf : f_225 N h v0 v1 = some r) : pb_AR xs (d + 5) 225 h [.ref v0, .int v1] (some (.int r)) h := by
  intro G hG
  have hc_ : pb_CODE 225 = kc_225 := rfl
  rw [hc_] at hG
  unfold f_225 at hf
  refine hG.1 0 0 kb_225_0 _ _ _ rfl ?_
  refine And.intro (by decide) (And.intro (by decide) (?_))
  by_cases hc1 : (v1 / 10) = 1
  · rw [if_pos hc1] at hf
    refine pb_gs (G := G) (tgt := 44) (show pb_swt 9 129 1 5 #[35, 54, 73, 92, 111] (v1 / 10) = 44 by rw [hc1]; decide) ?_
    refine hG.1 1 44 kb_225_44 _ _ _ rfl ?_
    obtain ⟨hg2, hf⟩ := pb_gd hf
    refine And.intro hg2 (?_)
    refine And.intro (fun (hc5 : (pb_I h v0 24) ≤ (v1 - v1 / 10 * 10)) => ?_) (fun (hc5 : ¬ ((pb_I h v0 24) ≤ (v1 - v1 / 10 * 10))) => ?_)
    · rw [if_pos hc5] at hf
      refine hG.1 2 61 kb_225_61 _ _ _ rfl ?_
      refine hG.1 3 62 kb_225_62 _ _ _ rfl ?_
      cases hf
      exact And.intro (fun z_ => absurd z_ (by decide)) (And.intro rfl rfl)
    · rw [if_neg hc5] at hf
      obtain ⟨q3, eq3, hf⟩ := Option.bind_eq_some_iff.mp hf
      obtain ⟨hg4, hf⟩ := pb_gd hf
      refine And.intro hg2 (Exists.intro q3 (And.intro eq3 (And.intro hg4 (?_))))
      refine hG.1 3 62 kb_225_62 _ _ _ rfl ?_
      cases hf
      exact And.intro (fun z_ => absurd z_ (by decide)) (And.intro rfl rfl)
  rw [if_neg hc1] at hf
  by_cases hc6 : (v1 / 10) = 2
  · rw [if_pos hc6] at hf
    refine pb_gs (G := G) (tgt := 63) (show pb_swt 9 129 1 5 #[35, 54, 73, 92, 111] (v1 / 10) = 63 by rw [hc6]; decide) ?_
    refine hG.1 4 63 kb_225_63 _ _ _ rfl ?_
    obtain ⟨hg7, hf⟩ := pb_gd hf
    refine And.intro hg7 (?_)
    refine And.intro (fun (hc10 : (pb_I h v0 25) ≤ (v1 - v1 / 10 * 10)) => ?_) (fun (hc10 : ¬ ((pb_I h v0 25) ≤ (v1 - v1 / 10 * 10))) => ?_)
    · rw [if_pos hc10] at hf
      refine hG.1 5 80 kb_225_80 _ _ _ rfl ?_
      refine hG.1 6 81 kb_225_81 _ _ _ rfl ?_
      cases hf
      exact And.intro (fun z_ => absurd z_ (by decide)) (And.intro rfl rfl)
    · rw [if_neg hc10] at hf
      obtain ⟨q8, eq8, hf⟩ := Option.bind_eq_some_iff.mp hf
      obtain ⟨hg9, hf⟩ := pb_gd hf
      refine And.intro hg7 (Exists.intro q8 (And.intro eq8 (And.intro hg9 (?_))))
      refine hG.1 6 81 kb_225_81 _ _ _ rfl ?_
      cases hf
      exact And.intro (fun z_ => absurd z_ (by decide)) (And.intro rfl rfl)
  rw [if_neg hc6] at hf
  by_cases hc11 : (v1 / 10) = 3
  · rw [if_pos hc11] at hf
    refine pb_gs (G := G) (tgt := 82) (show pb_swt 9 129 1 5 #[35, 54, 73, 92, 111] (v1 / 10) = 82 by rw [hc11]; decide) ?_
    refine hG.1 7 82 kb_225_82 _ _ _ rfl ?_
    obtain ⟨hg12, hf⟩ := pb_gd hf
    refine And.intro hg12 (?_)
    refine And.intro (fun (hc15 : (pb_I h v0 25) ≤ (v1 - v1 / 10 * 10)) => ?_) (fun (hc15 : ¬ ((pb_I h v0 25) ≤ (v1 - v1 / 10 * 10))) => ?_)
    · rw [if_pos hc15] at hf
      refine hG.1 8 99 kb_225_99 _ _ _ rfl ?_
      refine hG.1 9 100 kb_225_100 _ _ _ rfl ?_
      cases hf
      exact And.intro (fun z_ => absurd z_ (by decide)) (And.intro rfl rfl)
    · rw [if_neg hc15] at hf
      obtain ⟨q13, eq13, hf⟩ := Option.bind_eq_some_iff.mp hf
      obtain ⟨hg14, hf⟩ := pb_gd hf
      refine And.intro hg12 (Exists.intro q13 (And.intro eq13 (And.intro hg14 (?_))))
      refine hG.1 9 100 kb_225_100 _ _ _ rfl ?_
      cases hf
      exact And.intro (fun z_ => absurd z_ (by decide)) (And.intro rfl rfl)
  rw [if_neg hc11] at hf
  by_cases hc16 : (v1 / 10) = 4
  · rw [if_pos hc16] at hf
    refine pb_gs (G := G) (tgt := 101) (show pb_swt 9 129 1 5 #[35, 54, 73, 92, 111] (v1 / 10) = 101 by rw [hc16]; decide) ?_
    refine hG.1 10 101 kb_225_101 _ _ _ rfl ?_
    obtain ⟨hg17, hf⟩ := pb_gd hf
    refine And.intro hg17 (?_)
    refine And.intro (fun (hc20 : (pb_I h v0 25) ≤ (v1 - v1 / 10 * 10)) => ?_) (fun (hc20 : ¬ ((pb_I h v0 25) ≤ (v1 - v1 / 10 * 10))) => ?_)
    · rw [if_pos hc20] at hf
      refine hG.1 11 118 kb_225_118 _ _ _ rfl ?_
      refine hG.1 12 119 kb_225_119 _ _ _ rfl ?_
      cases hf
      exact And.intro (fun z_ => absurd z_ (by decide)) (And.intro rfl rfl)
    · rw [if_neg hc20] at hf
      obtain ⟨q18, eq18, hf⟩ := Option.bind_eq_some_iff.mp hf
      obtain ⟨hg19, hf⟩ := pb_gd hf
      refine And.intro hg17 (Exists.intro q18 (And.intro eq18 (And.intro hg19 (?_))))
      refine hG.1 12 119 kb_225_119 _ _ _ rfl ?_
      cases hf
      exact And.intro (fun z_ => absurd z_ (by decide)) (And.intro rfl rfl)
  rw [if_neg hc16] at hf
  by_cases hc21 : (v1 / 10) = 5
  · rw [if_pos hc21] at hf
    refine pb_gs (G := G) (tgt := 120) (show pb_swt 9 129 1 5 #[35, 54, 73, 92, 111] (v1 / 10) = 120 by rw [hc21]; decide) ?_
    refine hG.1 13 120 kb_225_120 _ _ _ rfl ?_
    obtain ⟨hg22, hf⟩ := pb_gd hf
    refine And.intro hg22 (?_)
    refine And.intro (fun (hc24 : (pb_I h v0 25) ≤ (v1 - v1 / 10 * 10)) => ?_) (fun (hc24 : ¬ ((pb_I h v0 25) ≤ (v1 - v1 / 10 * 10))) => ?_)
    · rw [if_pos hc24] at hf
      refine hG.1 14 136 kb_225_136 _ _ _ rfl ?_
      refine hG.1 15 137 kb_225_137 _ _ _ rfl ?_
      cases hf
      exact And.intro (fun z_ => absurd z_ (by decide)) (And.intro rfl rfl)
    · rw [if_neg hc24] at hf
      obtain ⟨r23, cr23, hf⟩ := Option.bind_eq_some_iff.mp hf
      refine And.intro hg22 (And.intro (Nat.le_of_ble_eq_true rfl) (And.intro (Nat.le_of_ble_eq_true rfl) (Exists.intro (some (.int r23)) (Exists.intro _ (And.intro (l_207 cr23) (?_))))))
      refine hG.1 15 137 kb_225_137 _ _ _ rfl ?_
      cases hf
      exact And.intro (fun z_ => absurd z_ (by decide)) (And.intro rfl rfl)
  rw [if_neg hc21] at hf
  refine pb_gs (G := G) (tgt := 138) (show pb_swt 9 129 1 5 #[35, 54, 73, 92, 111] (v1 / 10) = 138 from pb_swd (by decide) (by decide) (fun k_ hk_ => by
    have hk_ : k_ < 5 := hk_
    match k_, hk_ with
    | 0, _ => exact hc1
    | 1, _ => exact hc6
    | 2, _ => exact hc11
    | 3, _ => exact hc16
    | 4, _ => exact hc21
    | k_ + 5, hk_ => omega)) ?_
  refine hG.1 16 138 kb_225_138 _ _ _ rfl ?_
  cases hf
  exact And.intro (fun z_ => absurd z_ (by decide)) (And.intro rfl rfl)
def f_236_4s (N : Nat) (v0 : Nat) (v1 : Int32) (v2 : Int32) (s : Int32 × pb_HP) : Option ((Int32 × pb_HP) ⊕ (pb_HP)) :=
  if pb_is s.2 v0 11 then (if (pb_I s.2 v0 24) ≤ s.1 then (some (.inr s.2)) else ((pb_R s.2 v0 30).bind fun q2 => ((f_197 s.2 v0 (8 + s.1)).bind fun r3 => (if pb_ar s.2 q2 12 s.1 then (some (.inl ((s.1 + 1, pb_pI s.2 q2 s.1.toNatClampNeg (r3 &&& (((1 : Int32) <<< (v1 &&& 31)) ^^^ ((-1)))))))) else none)))) else none
def f_236_40s (N : Nat) (h : pb_HP) (v0 : Nat) (s : Int32 × Int32) : Option ((Int32 × Int32) ⊕ (Int32)) :=
  if pb_is h v0 11 then (if (pb_I h v0 25) ≤ s.2 then (some (.inr s.1)) else ((f_207 N h v0 s.2).bind fun r8 => ((pb_R h v0 35).bind fun q9 => (if pb_ar h q9 12 s.2 then (if r8 = (pb_I h q9 s.2.toNatClampNeg) then (some (.inl ((s.1 + 0, s.2 + 1)))) else (some (.inl ((s.1 + 1, s.2 + 1))))) else none)))) else none
/-- PointedBenchModel.changedBy -/
def f_236 (N : Nat) (h : pb_HP) (v0 : Nat) (v1 : Int32) : Option (Int32 × pb_HP) :=
  (pb_wl (f_236_4s N v0 v1 0) N ((0, h))).bind fun e6 => ((pb_wl (f_236_40s N e6 v0) N ((0, 0))).bind fun e13 => (some ((e13, e6))))
set_option maxRecDepth 4000 in
theorem l_236 {xs : List Int32} {d : Nat} {N : Nat} {h : pb_HP} {v0 : Nat} {v1 : Int32} {r : Int32} {hE : pb_HP} (hf : f_236 N h v0 v1 = some ((r, hE))) : pb_AR xs (d + 5) 236 h [.ref v0, .int v1] (some (.int r)) hE := by
  intro G hG
  have hc_ : pb_CODE 236 = kc_236 := rfl
  rw [hc_] at hG
  have hl_4 : ∀ (v0 : Nat) (v1 : Int32) (v2 : Int32) (n_ : Nat) (s : Int32 × pb_HP) (e : pb_HP), pb_wl (f_236_4s N v0 v1 v2) n_ s = some e → G 38 [(0, .ref v0), (2, .int v2)] [] e → G 4 [(0, .ref v0), (1, .int v1), (2, .int v2), (3, .int s.1)] [] s.2 := by
    intro v0 v1 v2
    refine pb_wl_ind (I := fun (s : Int32 × pb_HP) => G 4 [(0, .ref v0), (1, .int v1), (2, .int v2), (3, .int s.1)] [] s.2) (K := fun (e : pb_HP) => G 38 [(0, .ref v0), (2, .int v2)] [] e) (fun s x hf hk => ?_)
    unfold f_236_4s at hf
    refine hG.1 1 4 kb_236_4 _ _ _ rfl ?_
    obtain ⟨hg1, hf⟩ := pb_gd hf
    refine And.intro hg1 (?_)
    refine And.intro (fun (hc5 : (pb_I s.2 v0 24) ≤ s.1) => ?_) (fun (hc5 : ¬ ((pb_I s.2 v0 24) ≤ s.1)) => ?_)
    · rw [if_pos hc5] at hf
      cases hf
      exact hG.2 38 _ [0, 2] _ _ _ rfl hk
    · rw [if_neg hc5] at hf
      obtain ⟨q2, eq2, hf⟩ := Option.bind_eq_some_iff.mp hf
      refine And.intro hg1 (Exists.intro q2 (And.intro eq2 (?_)))
      obtain ⟨r3, cr3, hf⟩ := Option.bind_eq_some_iff.mp hf
      refine And.intro hg1 (And.intro (Nat.le_of_ble_eq_true rfl) (And.intro (Nat.le_of_ble_eq_true rfl) (Exists.intro (some (.int r3)) (Exists.intro _ (And.intro (l_197 cr3) (?_))))))
      obtain ⟨hg4, hf⟩ := pb_gd hf
      refine And.intro hg4 (?_)
      cases hf
      exact hk
  have hl_40 : ∀ (h : pb_HP) (v0 : Nat) (n_ : Nat) (s : Int32 × Int32) (e : Int32), pb_wl (f_236_40s N h v0) n_ s = some e → G 76 [(2, .int e)] [] h → G 40 [(0, .ref v0), (2, .int s.1), (3, .int s.2)] [] h := by
    intro h v0
    refine pb_wl_ind (I := fun (s : Int32 × Int32) => G 40 [(0, .ref v0), (2, .int s.1), (3, .int s.2)] [] h) (K := fun (e : Int32) => G 76 [(2, .int e)] [] h) (fun s x hf hk => ?_)
    unfold f_236_40s at hf
    refine hG.1 3 40 kb_236_40 _ _ _ rfl ?_
    obtain ⟨hg7, hf⟩ := pb_gd hf
    refine And.intro hg7 (?_)
    refine And.intro (fun (hc12 : (pb_I h v0 25) ≤ s.2) => ?_) (fun (hc12 : ¬ ((pb_I h v0 25) ≤ s.2)) => ?_)
    · rw [if_pos hc12] at hf
      cases hf
      exact hG.2 76 _ [1] _ _ _ rfl hk
    · rw [if_neg hc12] at hf
      obtain ⟨r8, cr8, hf⟩ := Option.bind_eq_some_iff.mp hf
      refine And.intro hg7 (And.intro (Nat.le_of_ble_eq_true rfl) (And.intro (Nat.le_of_ble_eq_true rfl) (Exists.intro (some (.int r8)) (Exists.intro _ (And.intro (l_207 cr8) (?_))))))
      obtain ⟨q9, eq9, hf⟩ := Option.bind_eq_some_iff.mp hf
      obtain ⟨hg10, hf⟩ := pb_gd hf
      refine And.intro hg7 (Exists.intro q9 (And.intro eq9 (And.intro hg10 (?_))))
      refine And.intro (fun (hc11 : r8 = (pb_I h q9 s.2.toNatClampNeg)) => ?_) (fun (hc11 : ¬ (r8 = (pb_I h q9 s.2.toNatClampNeg))) => ?_)
      · rw [if_pos hc11] at hf
        refine hG.1 4 67 kb_236_67 _ _ _ rfl ?_
        refine hG.1 5 68 kb_236_68 _ _ _ rfl ?_
        cases hf
        exact hk
      · rw [if_neg hc11] at hf
        refine hG.1 5 68 kb_236_68 _ _ _ rfl ?_
        cases hf
        exact hk
  unfold f_236 at hf
  refine hG.1 0 0 kb_236_0 _ _ _ rfl ?_
  obtain ⟨e6, he_e6, hf⟩ := Option.bind_eq_some_iff.mp hf
  refine hl_4 _ _ _ _ _ _ he_e6 ?_
  refine hG.1 2 38 kb_236_38 _ _ _ rfl ?_
  obtain ⟨e13, he_e13, hf⟩ := Option.bind_eq_some_iff.mp hf
  refine hl_40 _ _ _ _ _ he_e13 ?_
  refine hG.1 6 76 kb_236_76 _ _ _ rfl ?_
  cases hf
  exact And.intro (fun z_ => absurd z_ (by decide)) (And.intro rfl rfl)
def f_251_17s (N : Nat) (v0 : Nat) (s : Int32 × pb_HP) : Option ((Int32 × pb_HP) ⊕ (pb_HP)) :=
  if 729 ≤ s.1 then (some (.inr s.2)) else (if pb_is s.2 v0 11 then ((f_250 N s.2 v0 s.1).bind fun r6 => (if r6 = 0 then (some (.inl ((s.1 + 1, s.2)))) else ((pb_R s.2 v0 40).bind fun q7 => (if pb_ar s.2 q7 12 (pb_I s.2 v0 41) then (some (.inl ((s.1 + 1, pb_pI (pb_pI s.2 q7 (pb_I s.2 v0 41).toNatClampNeg s.1) v0 41 ((pb_I (pb_pI s.2 q7 (pb_I s.2 v0 41).toNatClampNeg s.1) v0 41) + 1))))) else none)))) else none)
/-- PointedBenchModel.layLog -/
def f_251 (N : Nat) (h : pb_HP) (v0 : Nat) (v1 : Int32) : Option (Int32 × pb_HP) :=
  if pb_is h v0 11 then ((f_245 h v0 v1).bind fun (r2, h3) => (if ¬ r2 = 0 then (if pb_is h3 v0 11 then ((pb_wl (f_251_17s N v0) N ((0, pb_pI h3 v0 41 0))).bind fun e11 => (some ((1, e11)))) else none) else (some ((0, h3))))) else none
set_option maxRecDepth 4000 in
theorem l_251 {xs : List Int32} {d : Nat} {N : Nat} {h : pb_HP} {v0 : Nat} {v1 : Int32} {r : Int32} {hE : pb_HP} (hf : f_251 N h v0 v1 = some ((r, hE))) : pb_AR xs (d + 5) 251 h [.ref v0, .int v1] (some (.int r)) hE := by
  intro G hG
  have hc_ : pb_CODE 251 = kc_251 := rfl
  rw [hc_] at hG
  have hl_17 : ∀ (v0 : Nat) (n_ : Nat) (s : Int32 × pb_HP) (e : pb_HP), pb_wl (f_251_17s N v0) n_ s = some e → G 58 [] [] e → G 17 [(0, .ref v0), (2, .int s.1)] [] s.2 := by
    intro v0
    refine pb_wl_ind (I := fun (s : Int32 × pb_HP) => G 17 [(0, .ref v0), (2, .int s.1)] [] s.2) (K := fun (e : pb_HP) => G 58 [] [] e) (fun s x hf hk => ?_)
    unfold f_251_17s at hf
    refine hG.1 2 17 kb_251_17 _ _ _ rfl ?_
    refine And.intro (fun (hc10 : 729 ≤ s.1) => ?_) (fun (hc10 : ¬ (729 ≤ s.1)) => ?_)
    · rw [if_pos hc10] at hf
      cases hf
      exact hG.2 58 _ [] _ _ _ rfl hk
    · rw [if_neg hc10] at hf
      obtain ⟨hg5, hf⟩ := pb_gd hf
      obtain ⟨r6, cr6, hf⟩ := Option.bind_eq_some_iff.mp hf
      refine And.intro hg5 (And.intro (Nat.le_of_ble_eq_true rfl) (And.intro (Nat.le_of_ble_eq_true rfl) (Exists.intro (some (.int r6)) (Exists.intro _ (And.intro (l_250 cr6) (?_))))))
      refine And.intro (fun (hc9 : r6 = 0) => ?_) (fun (hc9 : ¬ (r6 = 0)) => ?_)
      · rw [if_pos hc9] at hf
        refine hG.1 3 52 kb_251_52 _ _ _ rfl ?_
        cases hf
        exact hk
      · rw [if_neg hc9] at hf
        obtain ⟨q7, eq7, hf⟩ := Option.bind_eq_some_iff.mp hf
        obtain ⟨hg8, hf⟩ := pb_gd hf
        refine And.intro hg5 (Exists.intro q7 (And.intro eq7 (And.intro hg5 (And.intro hg8 (And.intro hg5 (And.intro hg5 (?_)))))))
        refine hG.1 3 52 kb_251_52 _ _ _ rfl ?_
        cases hf
        exact hk
  unfold f_251 at hf
  refine hG.1 0 0 kb_251_0 _ _ _ rfl ?_
  obtain ⟨hg1, hf⟩ := pb_gd hf
  obtain ⟨⟨r2, h3⟩, cr2, hf⟩ := Option.bind_eq_some_iff.mp hf
  try dsimp only at hf
  refine And.intro hg1 (And.intro (Nat.le_of_ble_eq_true rfl) (And.intro (Nat.le_of_ble_eq_true rfl) (Exists.intro (some (.int r2)) (Exists.intro _ (And.intro (l_245 cr2) (?_))))))
  refine And.intro (fun (hc12 : ¬ r2 = 0) => ?_) (fun (hc12 : ¬ (¬ r2 = 0)) => ?_)
  · rw [if_pos hc12] at hf
    refine hG.1 1 10 kb_251_10 _ _ _ rfl ?_
    obtain ⟨hg4, hf⟩ := pb_gd hf
    refine And.intro hg4 (?_)
    obtain ⟨e11, he_e11, hf⟩ := Option.bind_eq_some_iff.mp hf
    refine hG.2 17 _ [0, 2] _ _ _ rfl ?_
    refine hl_17 _ _ _ _ he_e11 ?_
    refine hG.1 4 58 kb_251_58 _ _ _ rfl ?_
    cases hf
    exact And.intro (fun _ => Or.inr rfl) (And.intro rfl rfl)
  · rw [if_neg hc12] at hf
    cases hf
    exact And.intro (fun _ => Or.inl rfl) (And.intro rfl rfl)
def f_253_24s (N : Nat) (h : pb_HP) (v0 : Nat) (v3 : Int32) (s : Int32 × Int32 × Int32) : Option ((Int32 × Int32 × Int32) ⊕ (Int32 × Int32)) :=
  if 6 ≤ s.2.2 then (some (.inr ((s.1, s.2.1)))) else (if pb_is h v0 11 then ((f_252 N h v0 ((1 : Int32) <<< (v3 &&& 31)) ((1 : Int32) <<< (s.2.2 &&& 31))).bind fun r3 => ((f_170 r3 ((pb_I h v0 41) - r3)).bind fun r4 => (if v3 = s.2.2 then (some (.inl ((s.1, s.2.1, s.2.2 + 1)))) else (if s.2.1 ≤ r4 then (some (.inl ((s.1, s.2.1, s.2.2 + 1)))) else (some (.inl (((10 * v3) + s.2.2, r4, s.2.2 + 1)))))))) else none)
def f_253_8s (N : Nat) (h : pb_HP) (v0 : Nat) (s : Int32 × Int32 × Int32) : Option ((Int32 × Int32 × Int32) ⊕ (Int32)) :=
  if 6 ≤ s.2.2 then (some (.inr s.1)) else (if pb_is h v0 11 then (if (pb_I h v0 41) ≤ 0 then (some (.inr s.1)) else ((pb_wl (f_253_24s N h v0 s.2.2) N ((s.1, s.2.1, 0))).bind fun e8 => (some (.inl ((e8.1, e8.2, s.2.2 + 1)))))) else none)
/-- PointedBenchModel.ask -/
def f_253 (N : Nat) (h : pb_HP) (v0 : Nat) : Option (Int32) :=
  (pb_wl (f_253_8s N h v0) N (((-1), 1000000, 0))).bind fun e11 => (some e11)
set_option maxRecDepth 4000 in
theorem l_253 {xs : List Int32} {d : Nat} {N : Nat} {h : pb_HP} {v0 : Nat} {r : Int32} (hf : f_253 N h v0 = some r) : pb_AR xs (d + 5) 253 h [.ref v0] (some (.int r)) h := by
  intro G hG
  have hc_ : pb_CODE 253 = kc_253 := rfl
  rw [hc_] at hG
  have hl_24 : ∀ (v0 : Nat) (v3 : Int32) (n_ : Nat) (s : Int32 × Int32 × Int32) (e : Int32 × Int32), pb_wl (f_253_24s N h v0 v3) n_ s = some e → G 87 [(0, .ref v0), (1, .int e.1), (2, .int e.2), (3, .int v3)] [] h → G 24 [(0, .ref v0), (1, .int s.1), (2, .int s.2.1), (3, .int v3), (4, .int s.2.2)] [] h := by
    intro v0 v3
    refine pb_wl_ind (I := fun (s : Int32 × Int32 × Int32) => G 24 [(0, .ref v0), (1, .int s.1), (2, .int s.2.1), (3, .int v3), (4, .int s.2.2)] [] h) (K := fun (e : Int32 × Int32) => G 87 [(0, .ref v0), (1, .int e.1), (2, .int e.2), (3, .int v3)] [] h) (fun s x hf hk => ?_)
    unfold f_253_24s at hf
    refine hG.1 2 24 kb_253_24 _ _ _ rfl ?_
    refine And.intro (fun (hc7 : 6 ≤ s.2.2) => ?_) (fun (hc7 : ¬ (6 ≤ s.2.2)) => ?_)
    · rw [if_pos hc7] at hf
      cases hf
      exact hG.2 87 _ [0, 1, 2, 3] _ _ _ rfl hk
    · rw [if_neg hc7] at hf
      obtain ⟨hg2, hf⟩ := pb_gd hf
      obtain ⟨r3, cr3, hf⟩ := Option.bind_eq_some_iff.mp hf
      refine And.intro hg2 (And.intro (Nat.le_of_ble_eq_true rfl) (And.intro (Nat.le_of_ble_eq_true rfl) (Exists.intro (some (.int r3)) (Exists.intro _ (And.intro (l_252 cr3) (?_))))))
      refine And.intro hg2 (?_)
      obtain ⟨r4, cr4, hf⟩ := Option.bind_eq_some_iff.mp hf
      refine And.intro (Nat.le_of_ble_eq_true rfl) (And.intro (Nat.le_of_ble_eq_true rfl) (And.intro (Nat.le_of_ble_eq_true rfl) (Exists.intro (some (.int r4)) (Exists.intro _ (And.intro (l_170 cr4) (?_))))))
      refine And.intro (fun (hc6 : v3 = s.2.2) => ?_) (fun (hc6 : ¬ (v3 = s.2.2)) => ?_)
      · rw [if_pos hc6] at hf
        refine hG.1 3 81 kb_253_81 _ _ _ rfl ?_
        cases hf
        exact hG.2 24 _ [0, 1, 2, 3, 4] _ _ _ rfl hk
      · rw [if_neg hc6] at hf
        refine And.intro (fun (hc5 : s.2.1 ≤ r4) => ?_) (fun (hc5 : ¬ (s.2.1 ≤ r4)) => ?_)
        · rw [if_pos hc5] at hf
          refine hG.1 3 81 kb_253_81 _ _ _ rfl ?_
          cases hf
          exact hG.2 24 _ [0, 1, 2, 3, 4] _ _ _ rfl hk
        · rw [if_neg hc5] at hf
          refine hG.1 3 81 kb_253_81 _ _ _ rfl ?_
          cases hf
          exact hG.2 24 _ [0, 1, 2, 3, 4] _ _ _ rfl hk
  have hl_8 : ∀ (v0 : Nat) (n_ : Nat) (s : Int32 × Int32 × Int32) (e : Int32), pb_wl (f_253_8s N h v0) n_ s = some e → G 93 [(1, .int e)] [] h → G 8 [(0, .ref v0), (1, .int s.1), (2, .int s.2.1), (3, .int s.2.2)] [] h := by
    intro v0
    refine pb_wl_ind (I := fun (s : Int32 × Int32 × Int32) => G 8 [(0, .ref v0), (1, .int s.1), (2, .int s.2.1), (3, .int s.2.2)] [] h) (K := fun (e : Int32) => G 93 [(1, .int e)] [] h) (fun s x hf hk => ?_)
    unfold f_253_8s at hf
    refine hG.1 1 8 kb_253_8 _ _ _ rfl ?_
    refine And.intro (fun (hc10 : 6 ≤ s.2.2) => ?_) (fun (hc10 : ¬ (6 ≤ s.2.2)) => ?_)
    · rw [if_pos hc10] at hf
      cases hf
      exact hG.2 93 _ [1] _ _ _ rfl hk
    · rw [if_neg hc10] at hf
      obtain ⟨hg1, hf⟩ := pb_gd hf
      refine And.intro hg1 (?_)
      refine And.intro (fun (hc9 : (pb_I h v0 41) ≤ 0) => ?_) (fun (hc9 : ¬ ((pb_I h v0 41) ≤ 0)) => ?_)
      · rw [if_pos hc9] at hf
        cases hf
        exact hG.2 93 _ [1] _ _ _ rfl hk
      · rw [if_neg hc9] at hf
        obtain ⟨e8, he_e8, hf⟩ := Option.bind_eq_some_iff.mp hf
        refine hl_24 _ _ _ _ _ he_e8 ?_
        refine hG.1 4 87 kb_253_87 _ _ _ rfl ?_
        cases hf
        exact hk
  unfold f_253 at hf
  refine hG.1 0 0 kb_253_0 _ _ _ rfl ?_
  obtain ⟨e11, he_e11, hf⟩ := Option.bind_eq_some_iff.mp hf
  refine hl_8 _ _ _ _ he_e11 ?_
  refine hG.1 5 93 kb_253_93 _ _ _ rfl ?_
  cases hf
  exact And.intro (fun z_ => absurd z_ (by decide)) (And.intro rfl rfl)
/-- PointedBenchModel.duel -/
def f_261 (N : Nat) (h : pb_HP) (v0 : Nat) (v1 : Int32) (v2 : Int32) (v3 : Int32) : Option (Int32 × pb_HP) :=
  if pb_is h v0 11 then ((f_198 N (pb_pI h v0 0 0) v0 v1).bind fun (r2, h3) => (if r2 = 0 then (some (((-1), h3))) else (if pb_is h3 v0 11 then ((f_200 h3 v0 v2).bind fun r5 => (if r5 = 0 then (some (((-1), h3))) else ((f_200 h3 v0 v3).bind fun r6 => (if r6 = 0 then (some (((-1), h3))) else (if v2 = v3 then (some (((-1), h3))) else ((f_260 N h3 v0 v2 v3).bind fun r7 => (some ((r7, h3))))))))) else none))) else none
set_option maxRecDepth 4000 in
theorem l_261 {xs : List Int32} {d : Nat} {N : Nat} {h : pb_HP} {v0 : Nat} {v1 : Int32} {v2 : Int32} {v3 : Int32} {r : Int32} {hE : pb_HP} (hf : f_261 N h v0 v1 v2 v3 = some ((r, hE))) : pb_AR xs (d + 5) 261 h [.ref v0, .int v1, .int v2, .int v3] (some (.int r)) hE := by
  intro G hG
  have hc_ : pb_CODE 261 = kc_261 := rfl
  rw [hc_] at hG
  unfold f_261 at hf
  refine hG.1 0 0 kb_261_0 _ _ _ rfl ?_
  obtain ⟨hg1, hf⟩ := pb_gd hf
  refine And.intro hg1 (?_)
  obtain ⟨⟨r2, h3⟩, cr2, hf⟩ := Option.bind_eq_some_iff.mp hf
  try dsimp only at hf
  refine And.intro hg1 (And.intro (Nat.le_of_ble_eq_true rfl) (And.intro (Nat.le_of_ble_eq_true rfl) (Exists.intro (some (.int r2)) (Exists.intro _ (And.intro (l_198 cr2) (?_))))))
  refine And.intro (fun (hc11 : r2 = 0) => ?_) (fun (hc11 : ¬ (r2 = 0)) => ?_)
  · rw [if_pos hc11] at hf
    refine hG.1 1 43 kb_261_43 _ _ _ rfl ?_
    refine hG.1 2 44 kb_261_44 _ _ _ rfl ?_
    cases hf
    exact And.intro (fun z_ => absurd z_ (by decide)) (And.intro rfl rfl)
  · rw [if_neg hc11] at hf
    obtain ⟨hg4, hf⟩ := pb_gd hf
    obtain ⟨r5, cr5, hf⟩ := Option.bind_eq_some_iff.mp hf
    refine And.intro hg4 (And.intro (Nat.le_of_ble_eq_true rfl) (And.intro (Nat.le_of_ble_eq_true rfl) (Exists.intro (some (.int r5)) (Exists.intro _ (And.intro (l_200 cr5) (?_))))))
    refine And.intro (fun (hc10 : r5 = 0) => ?_) (fun (hc10 : ¬ (r5 = 0)) => ?_)
    · rw [if_pos hc10] at hf
      refine hG.1 1 43 kb_261_43 _ _ _ rfl ?_
      refine hG.1 2 44 kb_261_44 _ _ _ rfl ?_
      cases hf
      exact And.intro (fun z_ => absurd z_ (by decide)) (And.intro rfl rfl)
    · rw [if_neg hc10] at hf
      obtain ⟨r6, cr6, hf⟩ := Option.bind_eq_some_iff.mp hf
      refine And.intro hg4 (And.intro (Nat.le_of_ble_eq_true rfl) (And.intro (Nat.le_of_ble_eq_true rfl) (Exists.intro (some (.int r6)) (Exists.intro _ (And.intro (l_200 cr6) (?_))))))
      refine And.intro (fun (hc9 : r6 = 0) => ?_) (fun (hc9 : ¬ (r6 = 0)) => ?_)
      · rw [if_pos hc9] at hf
        refine hG.1 1 43 kb_261_43 _ _ _ rfl ?_
        refine hG.1 2 44 kb_261_44 _ _ _ rfl ?_
        cases hf
        exact And.intro (fun z_ => absurd z_ (by decide)) (And.intro rfl rfl)
      · rw [if_neg hc9] at hf
        refine And.intro (fun (hc8 : v2 = v3) => ?_) (fun (hc8 : ¬ (v2 = v3)) => ?_)
        · rw [if_pos hc8] at hf
          refine hG.1 1 43 kb_261_43 _ _ _ rfl ?_
          refine hG.1 2 44 kb_261_44 _ _ _ rfl ?_
          cases hf
          exact And.intro (fun z_ => absurd z_ (by decide)) (And.intro rfl rfl)
        · rw [if_neg hc8] at hf
          obtain ⟨r7, cr7, hf⟩ := Option.bind_eq_some_iff.mp hf
          refine And.intro hg4 (And.intro (Nat.le_of_ble_eq_true rfl) (And.intro (Nat.le_of_ble_eq_true rfl) (Exists.intro (some (.int r7)) (Exists.intro _ (And.intro (l_260 cr7) (?_))))))
          refine hG.1 2 44 kb_261_44 _ _ _ rfl ?_
          cases hf
          exact And.intro (fun z_ => absurd z_ (by decide)) (And.intro rfl rfl)
def f_262_14s (N : Nat) (h : pb_HP) (v0 : Nat) (v1 : Int32) (s : Int32 × Int32) : Option ((Int32 × Int32) ⊕ (Int32)) :=
  if pb_is h v0 11 then (if (pb_I h v0 24) ≤ s.2 then (some (.inr s.1)) else (if s.1 = 0 then (some (.inl ((0, s.2 + 1)))) else (if v1 = s.2 then (some (.inl ((1, s.2 + 1)))) else ((f_260 N h v0 v1 s.2).bind fun r3 => ((f_260 N h v0 s.2 v1).bind fun r4 => (if r3 ≤ r4 then (some (.inl ((0, s.2 + 1)))) else (some (.inl ((1, s.2 + 1)))))))))) else none
def f_262_2s (N : Nat) (h : pb_HP) (v0 : Nat) (s : Int32) : Option ((Int32) ⊕ ((Int32) ⊕ (Unit))) :=
  if pb_is h v0 11 then (if (pb_I h v0 24) ≤ s then (some (.inr (.inr (())))) else ((pb_wl (f_262_14s N h v0 s) N ((1, 0))).bind fun e9 => (if e9 = 0 then (some (.inl (s + 1))) else (some (.inr (.inl s)))))) else none
/-- PointedBenchModel.bestMan -/
def f_262 (N : Nat) (h : pb_HP) (v0 : Nat) : Option (Int32) :=
  (pb_wl (f_262_2s N h v0) N 0).bind fun e12 => (match e12 with | .inl q14 => some q14 | .inr x13 => some ((-1)))
set_option maxRecDepth 4000 in
theorem l_262 {xs : List Int32} {d : Nat} {N : Nat} {h : pb_HP} {v0 : Nat} {r : Int32} (hf : f_262 N h v0 = some r) : pb_AR xs (d + 5) 262 h [.ref v0] (some (.int r)) h := by
  intro G hG
  have hc_ : pb_CODE 262 = kc_262 := rfl
  rw [hc_] at hG
  have hl_14 : ∀ (v0 : Nat) (v1 : Int32) (n_ : Nat) (s : Int32 × Int32) (e : Int32), pb_wl (f_262_14s N h v0 v1) n_ s = some e → G 58 [(0, .ref v0), (1, .int v1), (2, .int e)] [] h → G 14 [(0, .ref v0), (1, .int v1), (2, .int s.1), (3, .int s.2)] [] h := by
    intro v0 v1
    refine pb_wl_ind (I := fun (s : Int32 × Int32) => G 14 [(0, .ref v0), (1, .int v1), (2, .int s.1), (3, .int s.2)] [] h) (K := fun (e : Int32) => G 58 [(0, .ref v0), (1, .int v1), (2, .int e)] [] h) (fun s x hf hk => ?_)
    unfold f_262_14s at hf
    refine hG.1 2 14 kb_262_14 _ _ _ rfl ?_
    obtain ⟨hg2, hf⟩ := pb_gd hf
    refine And.intro hg2 (?_)
    refine And.intro (fun (hc8 : (pb_I h v0 24) ≤ s.2) => ?_) (fun (hc8 : ¬ ((pb_I h v0 24) ≤ s.2)) => ?_)
    · rw [if_pos hc8] at hf
      cases hf
      exact hG.2 58 _ [0, 1, 2] _ _ _ rfl hk
    · rw [if_neg hc8] at hf
      refine And.intro (fun (hc7 : s.1 = 0) => ?_) (fun (hc7 : ¬ (s.1 = 0)) => ?_)
      · rw [if_pos hc7] at hf
        refine hG.1 4 50 kb_262_50 _ _ _ rfl ?_
        refine hG.1 5 51 kb_262_51 _ _ _ rfl ?_
        cases hf
        exact hk
      · rw [if_neg hc7] at hf
        refine And.intro (fun (hc6 : v1 = s.2) => ?_) (fun (hc6 : ¬ (v1 = s.2)) => ?_)
        · rw [if_pos hc6] at hf
          refine hG.1 3 46 kb_262_46 _ _ _ rfl ?_
          refine hG.1 5 51 kb_262_51 _ _ _ rfl ?_
          cases hf
          exact hk
        · rw [if_neg hc6] at hf
          obtain ⟨r3, cr3, hf⟩ := Option.bind_eq_some_iff.mp hf
          refine And.intro hg2 (And.intro (Nat.le_of_ble_eq_true rfl) (And.intro (Nat.le_of_ble_eq_true rfl) (Exists.intro (some (.int r3)) (Exists.intro _ (And.intro (l_260 cr3) (?_))))))
          obtain ⟨r4, cr4, hf⟩ := Option.bind_eq_some_iff.mp hf
          refine And.intro hg2 (And.intro (Nat.le_of_ble_eq_true rfl) (And.intro (Nat.le_of_ble_eq_true rfl) (Exists.intro (some (.int r4)) (Exists.intro _ (And.intro (l_260 cr4) (?_))))))
          refine And.intro (fun (hc5 : r3 ≤ r4) => ?_) (fun (hc5 : ¬ (r3 ≤ r4)) => ?_)
          · rw [if_pos hc5] at hf
            refine hG.1 4 50 kb_262_50 _ _ _ rfl ?_
            refine hG.1 5 51 kb_262_51 _ _ _ rfl ?_
            cases hf
            exact hk
          · rw [if_neg hc5] at hf
            refine hG.1 3 46 kb_262_46 _ _ _ rfl ?_
            refine hG.1 5 51 kb_262_51 _ _ _ rfl ?_
            cases hf
            exact hk
  have hl_2 : ∀ (v0 : Nat) (n_ : Nat) (s : Int32) (e : (Int32) ⊕ (Unit)), pb_wl (f_262_2s N h v0) n_ s = some e → pb_kk (fun (q_ : Int32) => q_ = r) (fun (x_ : Unit) => G 70 [] [] h) e → G 2 [(0, .ref v0), (1, .int s)] [] h := by
    intro v0
    refine pb_wl_ind (I := fun (s : Int32) => G 2 [(0, .ref v0), (1, .int s)] [] h) (K := fun (e : (Int32) ⊕ (Unit)) => pb_kk (fun (q_ : Int32) => q_ = r) (fun (x_ : Unit) => G 70 [] [] h) e) (fun s x hf hk => ?_)
    unfold f_262_2s at hf
    refine hG.1 1 2 kb_262_2 _ _ _ rfl ?_
    obtain ⟨hg1, hf⟩ := pb_gd hf
    refine And.intro hg1 (?_)
    refine And.intro (fun (hc11 : (pb_I h v0 24) ≤ s) => ?_) (fun (hc11 : ¬ ((pb_I h v0 24) ≤ s)) => ?_)
    · rw [if_pos hc11] at hf
      cases hf
      exact hG.2 70 _ [] _ _ _ rfl hk
    · rw [if_neg hc11] at hf
      obtain ⟨e9, he_e9, hf⟩ := Option.bind_eq_some_iff.mp hf
      refine hl_14 _ _ _ _ _ he_e9 ?_
      refine hG.1 6 58 kb_262_58 _ _ _ rfl ?_
      refine And.intro (fun (hc10 : e9 = 0) => ?_) (fun (hc10 : ¬ (e9 = 0)) => ?_)
      · rw [if_pos hc10] at hf
        refine hG.1 7 64 kb_262_64 _ _ _ rfl ?_
        cases hf
        exact hG.2 2 _ [0, 1] _ _ _ rfl hk
      · rw [if_neg hc10] at hf
        cases hf
        cases hk
        exact And.intro (fun z_ => absurd z_ (by decide)) (And.intro rfl rfl)
  unfold f_262 at hf
  refine hG.1 0 0 kb_262_0 _ _ _ rfl ?_
  obtain ⟨e12, he_e12, hf⟩ := Option.bind_eq_some_iff.mp hf
  refine hl_2 _ _ _ _ he_e12 ?_
  cases e12 with
  | inl q14 =>
    exact Option.some.inj hf
  | inr x13 =>
    try dsimp only at hf
    refine hG.1 8 70 kb_262_70 _ _ _ rfl ?_
    cases hf
    exact And.intro (fun z_ => absurd z_ (by decide)) (And.intro rfl rfl)
def f_263_4s (N : Nat) (h : pb_HP) (v0 : Nat) (v1 : Int32) (s : Int32 × Int32) : Option ((Int32 × Int32) ⊕ (Int32)) :=
  if pb_is h v0 11 then (if (pb_I h v0 24) ≤ s.2 then (some (.inr s.1)) else (if ¬ v1 = s.2 then ((f_260 N h v0 v1 s.2).bind fun r2 => (some (.inl ((s.1 + r2, s.2 + 1))))) else (some (.inl ((s.1 + 0, s.2 + 1)))))) else none
/-- PointedBenchModel.scoreOf -/
def f_263 (N : Nat) (h : pb_HP) (v0 : Nat) (v1 : Int32) : Option (Int32) :=
  (pb_wl (f_263_4s N h v0 v1) N ((0, 0))).bind fun e5 => (some e5)
set_option maxRecDepth 4000 in
theorem l_263 {xs : List Int32} {d : Nat} {N : Nat} {h : pb_HP} {v0 : Nat} {v1 : Int32} {r : Int32} (hf : f_263 N h v0 v1 = some r) : pb_AR xs (d + 5) 263 h [.ref v0, .int v1] (some (.int r)) h := by
  intro G hG
  have hc_ : pb_CODE 263 = kc_263 := rfl
  rw [hc_] at hG
  have hl_4 : ∀ (v0 : Nat) (v1 : Int32) (n_ : Nat) (s : Int32 × Int32) (e : Int32), pb_wl (f_263_4s N h v0 v1) n_ s = some e → G 36 [(2, .int e)] [] h → G 4 [(0, .ref v0), (1, .int v1), (2, .int s.1), (3, .int s.2)] [] h := by
    intro v0 v1
    refine pb_wl_ind (I := fun (s : Int32 × Int32) => G 4 [(0, .ref v0), (1, .int v1), (2, .int s.1), (3, .int s.2)] [] h) (K := fun (e : Int32) => G 36 [(2, .int e)] [] h) (fun s x hf hk => ?_)
    unfold f_263_4s at hf
    refine hG.1 1 4 kb_263_4 _ _ _ rfl ?_
    obtain ⟨hg1, hf⟩ := pb_gd hf
    refine And.intro hg1 (?_)
    refine And.intro (fun (hc4 : (pb_I h v0 24) ≤ s.2) => ?_) (fun (hc4 : ¬ ((pb_I h v0 24) ≤ s.2)) => ?_)
    · rw [if_pos hc4] at hf
      cases hf
      exact hG.2 36 _ [2] _ _ _ rfl hk
    · rw [if_neg hc4] at hf
      refine And.intro (fun (hc3 : ¬ v1 = s.2) => ?_) (fun (hc3 : ¬ (¬ v1 = s.2)) => ?_)
      · rw [if_pos hc3] at hf
        refine hG.1 2 22 kb_263_22 _ _ _ rfl ?_
        obtain ⟨r2, cr2, hf⟩ := Option.bind_eq_some_iff.mp hf
        refine And.intro hg1 (And.intro (Nat.le_of_ble_eq_true rfl) (And.intro (Nat.le_of_ble_eq_true rfl) (Exists.intro (some (.int r2)) (Exists.intro _ (And.intro (l_260 cr2) (?_))))))
        refine hG.1 3 28 kb_263_28 _ _ _ rfl ?_
        cases hf
        exact hk
      · rw [if_neg hc3] at hf
        refine hG.1 3 28 kb_263_28 _ _ _ rfl ?_
        cases hf
        exact hk
  unfold f_263 at hf
  refine hG.1 0 0 kb_263_0 _ _ _ rfl ?_
  obtain ⟨e5, he_e5, hf⟩ := Option.bind_eq_some_iff.mp hf
  refine hl_4 _ _ _ _ _ he_e5 ?_
  refine hG.1 4 36 kb_263_36 _ _ _ rfl ?_
  cases hf
  exact And.intro (fun z_ => absurd z_ (by decide)) (And.intro rfl rfl)
def f_280_86 (N : Nat) (h : pb_HP) (v0 : Nat) (v2 : Int32) (v3 : Int32) (v4 : Int32) (v5 : Int32) (v6 : Int32) (v7 : Int32) (s0 : Int32) : Option ((Int32 × Int32 × Int32) ⊕ (Int32)) :=
  if v6 < s0 then (some (.inl ((v4, v6, v7 + 1)))) else (if 1000000 ≤ s0 then (some (.inl ((v4, v6, v7 + 1)))) else (some (.inl ((v7, s0, v7 + 1)))))
def f_280_55s (N : Nat) (h : pb_HP) (v0 : Nat) (v2 : Int32) (v3 : Int32) (v5 : Int32) (s : Int32 × Int32 × Int32) : Option ((Int32 × Int32 × Int32) ⊕ (Int32)) :=
  if pb_is h v0 11 then (if (pb_I h v0 24) ≤ s.2.2 then (some (.inr s.1)) else ((f_169 v3 s.2.2).bind fun r7 => (if r7 = 0 then (f_280_86 N h v0 v2 v3 s.1 v5 s.2.1 s.2.2 1000000) else ((f_279 N h v0 s.2.2 v3).bind fun r10 => (f_280_86 N h v0 v2 v3 s.1 v5 s.2.1 s.2.2 r10))))) else none
def f_280_38s (N : Nat) (h : pb_HP) (v0 : Nat) (v2 : Int32) (s : Int32 × Int32 × Int32) : Option ((Int32 × Int32 × Int32) ⊕ (Int32)) :=
  if v2 < s.2.2 then (some (.inr s.2.1)) else ((pb_wl (f_280_55s N h v0 v2 s.1 s.2.2) N (((-1), 1000000, 0))).bind fun e13 => (some (.inl ((s.1 &&& (((1 : Int32) <<< (e13 &&& 31)) ^^^ ((-1))), e13, s.2.2 + 1)))))
/-- PointedBenchModel.runoff -/
def f_280 (N : Nat) (h : pb_HP) (v0 : Nat) (v1 : Int32) (v2 : Int32) : Option (Int32 × pb_HP) :=
  if pb_is h v0 11 then ((f_198 N (pb_pI h v0 0 0) v0 v1).bind fun (r2, h3) => (if r2 = 0 then (some (((-1), h3))) else (if pb_is h3 v0 11 then ((f_200 h3 v0 v2).bind fun r5 => (if ¬ r5 = 0 then ((pb_wl (f_280_38s N h3 v0 v2) N ((((1 : Int32) <<< ((pb_I h3 v0 24) &&& 31)) - 1, (-1), 0))).bind fun e15 => (some ((e15, h3)))) else (some (((-1), h3))))) else none))) else none
set_option maxRecDepth 4000 in
theorem l_280 {xs : List Int32} {d : Nat} {N : Nat} {h : pb_HP} {v0 : Nat} {v1 : Int32} {v2 : Int32} {r : Int32} {hE : pb_HP} (hf : f_280 N h v0 v1 v2 = some ((r, hE))) : pb_AR xs (d + 5) 280 h [.ref v0, .int v1, .int v2] (some (.int r)) hE := by
  intro G hG
  have hc_ : pb_CODE 280 = kc_280 := rfl
  rw [hc_] at hG
  have hj_86 : ∀ (h : pb_HP) (v0 : Nat) (v2 : Int32) (v3 : Int32) (v4 : Int32) (v5 : Int32) (v6 : Int32) (v7 : Int32) (s0 : Int32) x, f_280_86 N h v0 v2 v3 v4 v5 v6 v7 s0 = some x → pb_kk (fun (s_ : Int32 × Int32 × Int32) => G 55 [(0, .ref v0), (2, .int v2), (3, .int v3), (4, .int s_.1), (5, .int v5), (6, .int s_.2.1), (7, .int s_.2.2)] [] h) (fun (e_ : Int32) => G 117 [(0, .ref v0), (2, .int v2), (3, .int v3), (4, .int e_), (5, .int v5)] [] h) x → G 86 [(0, .ref v0), (2, .int v2), (3, .int v3), (4, .int v4), (5, .int v5), (6, .int v6), (7, .int v7)] [.int s0] h := by
    intro h v0 v2 v3 v4 v5 v6 v7 s0 x hf hk
    unfold f_280_86 at hf
    refine hG.1 6 86 kb_280_86 _ _ _ rfl ?_
    refine And.intro (fun (hc9 : v6 < s0) => ?_) (fun (hc9 : ¬ (v6 < s0)) => ?_)
    · rw [if_pos hc9] at hf
      refine hG.1 7 111 kb_280_111 _ _ _ rfl ?_
      cases hf
      exact hG.2 55 _ [0, 1, 2, 3, 4, 5, 6] _ _ _ rfl hk
    · rw [if_neg hc9] at hf
      refine And.intro (fun (hc8 : 1000000 ≤ s0) => ?_) (fun (hc8 : ¬ (1000000 ≤ s0)) => ?_)
      · rw [if_pos hc8] at hf
        refine hG.1 7 111 kb_280_111 _ _ _ rfl ?_
        cases hf
        exact hG.2 55 _ [0, 1, 2, 3, 4, 5, 6] _ _ _ rfl hk
      · rw [if_neg hc8] at hf
        refine hG.1 7 111 kb_280_111 _ _ _ rfl ?_
        cases hf
        exact hG.2 55 _ [0, 1, 2, 3, 4, 5, 6] _ _ _ rfl hk
  have hl_55 : ∀ (h : pb_HP) (v0 : Nat) (v2 : Int32) (v3 : Int32) (v5 : Int32) (n_ : Nat) (s : Int32 × Int32 × Int32) (e : Int32), pb_wl (f_280_55s N h v0 v2 v3 v5) n_ s = some e → G 117 [(0, .ref v0), (2, .int v2), (3, .int v3), (4, .int e), (5, .int v5)] [] h → G 55 [(0, .ref v0), (2, .int v2), (3, .int v3), (4, .int s.1), (5, .int v5), (6, .int s.2.1), (7, .int s.2.2)] [] h := by
    intro h v0 v2 v3 v5
    refine pb_wl_ind (I := fun (s : Int32 × Int32 × Int32) => G 55 [(0, .ref v0), (2, .int v2), (3, .int v3), (4, .int s.1), (5, .int v5), (6, .int s.2.1), (7, .int s.2.2)] [] h) (K := fun (e : Int32) => G 117 [(0, .ref v0), (2, .int v2), (3, .int v3), (4, .int e), (5, .int v5)] [] h) (fun s x hf hk => ?_)
    unfold f_280_55s at hf
    refine hG.1 4 55 kb_280_55 _ _ _ rfl ?_
    obtain ⟨hg6, hf⟩ := pb_gd hf
    refine And.intro hg6 (?_)
    refine And.intro (fun (hc12 : (pb_I h v0 24) ≤ s.2.2) => ?_) (fun (hc12 : ¬ ((pb_I h v0 24) ≤ s.2.2)) => ?_)
    · rw [if_pos hc12] at hf
      cases hf
      exact hG.2 117 _ [0, 1, 2, 3, 4] _ _ _ rfl hk
    · rw [if_neg hc12] at hf
      obtain ⟨r7, cr7, hf⟩ := Option.bind_eq_some_iff.mp hf
      refine And.intro (Nat.le_of_ble_eq_true rfl) (And.intro (Nat.le_of_ble_eq_true rfl) (And.intro (Nat.le_of_ble_eq_true rfl) (Exists.intro (some (.int r7)) (Exists.intro _ (And.intro (l_169 cr7) (?_))))))
      refine And.intro (fun (hc11 : r7 = 0) => ?_) (fun (hc11 : ¬ (r7 = 0)) => ?_)
      · rw [if_pos hc11] at hf
        refine hG.1 5 83 kb_280_83 _ _ _ rfl ?_
        exact hj_86 _ _ _ _ _ _ _ _ _ _ hf hk
      · rw [if_neg hc11] at hf
        obtain ⟨r10, cr10, hf⟩ := Option.bind_eq_some_iff.mp hf
        refine And.intro hg6 (And.intro (Nat.le_of_ble_eq_true rfl) (And.intro (Nat.le_of_ble_eq_true rfl) (Exists.intro (some (.int r10)) (Exists.intro _ (And.intro (l_279 cr10) (?_))))))
        exact hj_86 _ _ _ _ _ _ _ _ _ _ hf hk
  have hl_38 : ∀ (h : pb_HP) (v0 : Nat) (v2 : Int32) (n_ : Nat) (s : Int32 × Int32 × Int32) (e : Int32), pb_wl (f_280_38s N h v0 v2) n_ s = some e → G 132 [(4, .int e)] [] h → G 38 [(0, .ref v0), (2, .int v2), (3, .int s.1), (4, .int s.2.1), (5, .int s.2.2)] [] h := by
    intro h v0 v2
    refine pb_wl_ind (I := fun (s : Int32 × Int32 × Int32) => G 38 [(0, .ref v0), (2, .int v2), (3, .int s.1), (4, .int s.2.1), (5, .int s.2.2)] [] h) (K := fun (e : Int32) => G 132 [(4, .int e)] [] h) (fun s x hf hk => ?_)
    unfold f_280_38s at hf
    refine hG.1 3 38 kb_280_38 _ _ _ rfl ?_
    refine And.intro (fun (hc14 : v2 < s.2.2) => ?_) (fun (hc14 : ¬ (v2 < s.2.2)) => ?_)
    · rw [if_pos hc14] at hf
      cases hf
      exact hG.2 132 _ [3] _ _ _ rfl hk
    · rw [if_neg hc14] at hf
      obtain ⟨e13, he_e13, hf⟩ := Option.bind_eq_some_iff.mp hf
      refine hl_55 _ _ _ _ _ _ _ _ he_e13 ?_
      refine hG.1 8 117 kb_280_117 _ _ _ rfl ?_
      cases hf
      exact hk
  unfold f_280 at hf
  refine hG.1 0 0 kb_280_0 _ _ _ rfl ?_
  obtain ⟨hg1, hf⟩ := pb_gd hf
  refine And.intro hg1 (?_)
  obtain ⟨⟨r2, h3⟩, cr2, hf⟩ := Option.bind_eq_some_iff.mp hf
  try dsimp only at hf
  refine And.intro hg1 (And.intro (Nat.le_of_ble_eq_true rfl) (And.intro (Nat.le_of_ble_eq_true rfl) (Exists.intro (some (.int r2)) (Exists.intro _ (And.intro (l_198 cr2) (?_))))))
  refine And.intro (fun (hc17 : r2 = 0) => ?_) (fun (hc17 : ¬ (r2 = 0)) => ?_)
  · rw [if_pos hc17] at hf
    refine hG.1 1 21 kb_280_21 _ _ _ rfl ?_
    cases hf
    exact And.intro (fun z_ => absurd z_ (by decide)) (And.intro rfl rfl)
  · rw [if_neg hc17] at hf
    obtain ⟨hg4, hf⟩ := pb_gd hf
    obtain ⟨r5, cr5, hf⟩ := Option.bind_eq_some_iff.mp hf
    refine And.intro hg4 (And.intro (Nat.le_of_ble_eq_true rfl) (And.intro (Nat.le_of_ble_eq_true rfl) (Exists.intro (some (.int r5)) (Exists.intro _ (And.intro (l_200 cr5) (?_))))))
    refine And.intro (fun (hc16 : ¬ r5 = 0) => ?_) (fun (hc16 : ¬ (¬ r5 = 0)) => ?_)
    · rw [if_pos hc16] at hf
      refine hG.1 2 23 kb_280_23 _ _ _ rfl ?_
      refine And.intro hg4 (?_)
      obtain ⟨e15, he_e15, hf⟩ := Option.bind_eq_some_iff.mp hf
      refine hG.2 38 _ [0, 2, 3, 4, 5] _ _ _ rfl ?_
      refine hl_38 _ _ _ _ _ _ he_e15 ?_
      refine hG.1 9 132 kb_280_132 _ _ _ rfl ?_
      cases hf
      exact And.intro (fun z_ => absurd z_ (by decide)) (And.intro rfl rfl)
    · rw [if_neg hc16] at hf
      refine hG.1 1 21 kb_280_21 _ _ _ rfl ?_
      cases hf
      exact And.intro (fun z_ => absurd z_ (by decide)) (And.intro rfl rfl)
def f_283_9s (N : Nat) (h : pb_HP) (v0 : Nat) (s : Int32 × Int32) : Option ((Int32 × Int32) ⊕ (Int32)) :=
  if pb_is h v0 11 then (if (pb_I h v0 24) ≤ s.2 then (some (.inr s.1)) else ((pb_R h v0 43).bind fun q5 => (if pb_ar h q5 12 s.2 then ((f_260 N h v0 (pb_I h q5 s.2.toNatClampNeg) s.1).bind fun r7 => ((f_260 N h v0 s.1 (pb_I h q5 s.2.toNatClampNeg)).bind fun r8 => (if r7 ≤ r8 then (some (.inl ((s.1, s.2 + 1)))) else (some (.inl ((pb_I h q5 s.2.toNatClampNeg, s.2 + 1))))))) else none))) else none
/-- PointedBenchModel.stays -/
def f_283 (N : Nat) (h : pb_HP) (v0 : Nat) : Option (Int32) :=
  if pb_is h v0 11 then ((pb_R h v0 43).bind fun q2 => (if pb_ar h q2 12 0 then ((pb_wl (f_283_9s N h v0) N ((pb_I h q2 (0 : Int32).toNatClampNeg, 1))).bind fun e11 => (some e11)) else none)) else none
set_option maxRecDepth 4000 in
theorem l_283 {xs : List Int32} {d : Nat} {N : Nat} {h : pb_HP} {v0 : Nat} {r : Int32} (hf : f_283 N h v0 = some r) : pb_AR xs (d + 5) 283 h [.ref v0] (some (.int r)) h := by
  intro G hG
  have hc_ : pb_CODE 283 = kc_283 := rfl
  rw [hc_] at hG
  have hl_9 : ∀ (v0 : Nat) (n_ : Nat) (s : Int32 × Int32) (e : Int32), pb_wl (f_283_9s N h v0) n_ s = some e → G 51 [(1, .int e)] [] h → G 9 [(0, .ref v0), (1, .int s.1), (2, .int s.2)] [] h := by
    intro v0
    refine pb_wl_ind (I := fun (s : Int32 × Int32) => G 9 [(0, .ref v0), (1, .int s.1), (2, .int s.2)] [] h) (K := fun (e : Int32) => G 51 [(1, .int e)] [] h) (fun s x hf hk => ?_)
    unfold f_283_9s at hf
    refine hG.1 1 9 kb_283_9 _ _ _ rfl ?_
    obtain ⟨hg4, hf⟩ := pb_gd hf
    refine And.intro hg4 (?_)
    refine And.intro (fun (hc10 : (pb_I h v0 24) ≤ s.2) => ?_) (fun (hc10 : ¬ ((pb_I h v0 24) ≤ s.2)) => ?_)
    · rw [if_pos hc10] at hf
      cases hf
      exact hG.2 51 _ [1] _ _ _ rfl hk
    · rw [if_neg hc10] at hf
      obtain ⟨q5, eq5, hf⟩ := Option.bind_eq_some_iff.mp hf
      obtain ⟨hg6, hf⟩ := pb_gd hf
      refine And.intro hg4 (Exists.intro q5 (And.intro eq5 (And.intro hg6 (?_))))
      obtain ⟨r7, cr7, hf⟩ := Option.bind_eq_some_iff.mp hf
      refine And.intro hg4 (And.intro (Nat.le_of_ble_eq_true rfl) (And.intro (Nat.le_of_ble_eq_true rfl) (Exists.intro (some (.int r7)) (Exists.intro _ (And.intro (l_260 cr7) (?_))))))
      obtain ⟨r8, cr8, hf⟩ := Option.bind_eq_some_iff.mp hf
      refine And.intro hg4 (And.intro (Nat.le_of_ble_eq_true rfl) (And.intro (Nat.le_of_ble_eq_true rfl) (Exists.intro (some (.int r8)) (Exists.intro _ (And.intro (l_260 cr8) (?_))))))
      refine And.intro (fun (hc9 : r7 ≤ r8) => ?_) (fun (hc9 : ¬ (r7 ≤ r8)) => ?_)
      · rw [if_pos hc9] at hf
        refine hG.1 2 43 kb_283_43 _ _ _ rfl ?_
        refine hG.1 3 44 kb_283_44 _ _ _ rfl ?_
        cases hf
        exact hG.2 9 _ [0, 1, 2] _ _ _ rfl hk
      · rw [if_neg hc9] at hf
        refine hG.1 3 44 kb_283_44 _ _ _ rfl ?_
        cases hf
        exact hG.2 9 _ [0, 1, 2] _ _ _ rfl hk
  unfold f_283 at hf
  refine hG.1 0 0 kb_283_0 _ _ _ rfl ?_
  obtain ⟨hg1, hf⟩ := pb_gd hf
  obtain ⟨q2, eq2, hf⟩ := Option.bind_eq_some_iff.mp hf
  obtain ⟨hg3, hf⟩ := pb_gd hf
  refine And.intro hg1 (Exists.intro q2 (And.intro eq2 (And.intro hg3 (?_))))
  obtain ⟨e11, he_e11, hf⟩ := Option.bind_eq_some_iff.mp hf
  refine hl_9 _ _ _ _ he_e11 ?_
  refine hG.1 4 51 kb_283_51 _ _ _ rfl ?_
  cases hf
  exact And.intro (fun z_ => absurd z_ (by decide)) (And.intro rfl rfl)
def f_286_21s (N : Nat) (v0 : Nat) (v1 : Int32) (v2 : Int32) (v3 : Int32) (v4 : Int32) (s : Int32 × Int32 × pb_HP) : Option ((Int32 × Int32 × pb_HP) ⊕ (Int32 × pb_HP)) :=
  if 60 ≤ s.2.1 then (some (.inr ((s.1, s.2.2)))) else (if ¬ s.1 = 1000000 then (some (.inr ((s.1, s.2.2)))) else (if pb_is s.2.2 v0 11 then ((pb_R s.2.2 v0 34).bind fun q5 => (if pb_ar s.2.2 q5 12 ((6 * v1) + v3) then ((f_207 N (pb_pI s.2.2 q5 ((6 * v1) + v3).toNatClampNeg (v4 + s.2.1)) v0 v1).bind fun r7 => (if ¬ r7 = v2 then (some (.inl ((1000000, s.2.1 + 1, pb_pI s.2.2 q5 ((6 * v1) + v3).toNatClampNeg (v4 + s.2.1))))) else (some (.inl ((s.2.1, s.2.1 + 1, pb_pI s.2.2 q5 ((6 * v1) + v3).toNatClampNeg (v4 + s.2.1))))))) else none)) else none))
def f_286_77 (N : Nat) (h : pb_HP) (v0 : Nat) (v1 : Int32) (v3 : Int32) (v4 : Int32) (v5 : Int32) : Option (Int32 × pb_HP) :=
  if pb_is h v0 11 then ((pb_R h v0 34).bind fun q13 => (if pb_ar h q13 12 ((6 * v1) + v3) then (some ((v5, pb_pI h q13 ((6 * v1) + v3).toNatClampNeg v4))) else none)) else none
/-- PointedBenchModel.bunOf -/
def f_286 (N : Nat) (h : pb_HP) (v0 : Nat) (v1 : Int32) (v2 : Int32) (v3 : Int32) : Option (Int32 × pb_HP) :=
  if pb_is h v0 11 then ((pb_R h v0 34).bind fun q2 => (if pb_ar h q2 12 ((6 * v1) + v3) then ((pb_wl (f_286_21s N v0 v1 v2 v3 (pb_I h q2 ((6 * v1) + v3).toNatClampNeg)) N ((1000000, 0, h))).bind fun e11 => (f_286_77 N e11.2 v0 v1 v3 (pb_I h q2 ((6 * v1) + v3).toNatClampNeg) e11.1)) else none)) else none
set_option maxRecDepth 4000 in
theorem l_286 {xs : List Int32} {d : Nat} {N : Nat} {h : pb_HP} {v0 : Nat} {v1 : Int32} {v2 : Int32} {v3 : Int32} {r : Int32} {hE : pb_HP} (hf : f_286 N h v0 v1 v2 v3 = some ((r, hE))) : pb_AR xs (d + 5) 286 h [.ref v0, .int v1, .int v2, .int v3] (some (.int r)) hE := by
  intro G hG
  have hc_ : pb_CODE 286 = kc_286 := rfl
  rw [hc_] at hG
  have hl_21 : ∀ (v0 : Nat) (v1 : Int32) (v2 : Int32) (v3 : Int32) (v4 : Int32) (n_ : Nat) (s : Int32 × Int32 × pb_HP) (e : Int32 × pb_HP), pb_wl (f_286_21s N v0 v1 v2 v3 v4) n_ s = some e → G 77 [(0, .ref v0), (1, .int v1), (3, .int v3), (4, .int v4), (5, .int e.1)] [] e.2 → G 21 [(0, .ref v0), (1, .int v1), (2, .int v2), (3, .int v3), (4, .int v4), (5, .int s.1), (6, .int s.2.1)] [] s.2.2 := by
    intro v0 v1 v2 v3 v4
    refine pb_wl_ind (I := fun (s : Int32 × Int32 × pb_HP) => G 21 [(0, .ref v0), (1, .int v1), (2, .int v2), (3, .int v3), (4, .int v4), (5, .int s.1), (6, .int s.2.1)] [] s.2.2) (K := fun (e : Int32 × pb_HP) => G 77 [(0, .ref v0), (1, .int v1), (3, .int v3), (4, .int v4), (5, .int e.1)] [] e.2) (fun s x hf hk => ?_)
    unfold f_286_21s at hf
    refine hG.1 1 21 kb_286_21 _ _ _ rfl ?_
    refine And.intro (fun (hc10 : 60 ≤ s.2.1) => ?_) (fun (hc10 : ¬ (60 ≤ s.2.1)) => ?_)
    · rw [if_pos hc10] at hf
      cases hf
      exact hG.2 77 _ [0, 1, 3, 4, 5] _ _ _ rfl hk
    · rw [if_neg hc10] at hf
      refine And.intro (fun (hc9 : ¬ s.1 = 1000000) => ?_) (fun (hc9 : ¬ (¬ s.1 = 1000000)) => ?_)
      · rw [if_pos hc9] at hf
        cases hf
        exact hG.2 77 _ [0, 1, 3, 4, 5] _ _ _ rfl hk
      · rw [if_neg hc9] at hf
        obtain ⟨hg4, hf⟩ := pb_gd hf
        obtain ⟨q5, eq5, hf⟩ := Option.bind_eq_some_iff.mp hf
        obtain ⟨hg6, hf⟩ := pb_gd hf
        refine And.intro hg4 (Exists.intro q5 (And.intro eq5 (And.intro hg6 (?_))))
        obtain ⟨r7, cr7, hf⟩ := Option.bind_eq_some_iff.mp hf
        refine And.intro hg4 (And.intro (Nat.le_of_ble_eq_true rfl) (And.intro (Nat.le_of_ble_eq_true rfl) (Exists.intro (some (.int r7)) (Exists.intro _ (And.intro (l_207 cr7) (?_))))))
        refine And.intro (fun (hc8 : ¬ r7 = v2) => ?_) (fun (hc8 : ¬ (¬ r7 = v2)) => ?_)
        · rw [if_pos hc8] at hf
          refine hG.1 2 66 kb_286_66 _ _ _ rfl ?_
          refine hG.1 3 69 kb_286_69 _ _ _ rfl ?_
          cases hf
          exact hk
        · rw [if_neg hc8] at hf
          refine hG.1 3 69 kb_286_69 _ _ _ rfl ?_
          cases hf
          exact hk
  have hj_77 : ∀ (h : pb_HP) (v0 : Nat) (v1 : Int32) (v3 : Int32) (v4 : Int32) (v5 : Int32), f_286_77 N h v0 v1 v3 v4 v5 = some ((r, hE)) → G 77 [(0, .ref v0), (1, .int v1), (3, .int v3), (4, .int v4), (5, .int v5)] [] h := by
    intro h v0 v1 v3 v4 v5 hf
    unfold f_286_77 at hf
    refine hG.1 4 77 kb_286_77 _ _ _ rfl ?_
    obtain ⟨hg12, hf⟩ := pb_gd hf
    obtain ⟨q13, eq13, hf⟩ := Option.bind_eq_some_iff.mp hf
    obtain ⟨hg14, hf⟩ := pb_gd hf
    refine And.intro hg12 (Exists.intro q13 (And.intro eq13 (And.intro hg14 (?_))))
    cases hf
    exact And.intro (fun z_ => absurd z_ (by decide)) (And.intro rfl rfl)
  unfold f_286 at hf
  refine hG.1 0 0 kb_286_0 _ _ _ rfl ?_
  obtain ⟨hg1, hf⟩ := pb_gd hf
  obtain ⟨q2, eq2, hf⟩ := Option.bind_eq_some_iff.mp hf
  obtain ⟨hg3, hf⟩ := pb_gd hf
  refine And.intro hg1 (Exists.intro q2 (And.intro eq2 (And.intro hg3 (?_))))
  obtain ⟨e11, he_e11, hf⟩ := Option.bind_eq_some_iff.mp hf
  refine hl_21 _ _ _ _ _ _ _ _ he_e11 ?_
  exact hj_77 _ _ _ _ _ _ hf
