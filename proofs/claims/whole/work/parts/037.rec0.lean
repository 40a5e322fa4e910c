def f_118_53 (F : pb_HP → Nat → Int32 → Int32 → Int32 → Option (Int32 × pb_HP)) (N : Nat) (h : pb_HP) (v0 : Nat) (v1 : Int32) (v3 : Int32) (v4 : Int32) (v5 : Int32) (v6 : Int32) : Option (Int32 × pb_HP) :=
  if pb_is h v0 8 then ((F h v0 (v1 + 1) v3 v4).bind fun (r8, h9) => (if pb_is h9 v0 8 then ((pb_R h9 v0 0).bind fun q11 => (if pb_is h9 q11 0 then ((pb_R h9 q11 3).bind fun q13 => (if pb_ar h9 q13 12 v5 then (some ((r8, pb_pI h9 q13 v5.toNatClampNeg v6))) else none)) else none)) else none)) else none
def f_118_17 (F : pb_HP → Nat → Int32 → Int32 → Int32 → Option (Int32 × pb_HP)) (N : Nat) (h : pb_HP) (v0 : Nat) (v1 : Int32) (v2 : Int32) (v3 : Int32) (v4 : Int32) (s0 : Int32) : Option (Int32 × pb_HP) :=
  if pb_is h v0 8 then ((pb_R h v0 0).bind fun q3 => (if pb_is h q3 0 then ((pb_R h q3 3).bind fun q5 => (if pb_ar h q5 12 s0 then (if v2 = 6 then (f_118_53 F N h v0 v1 v3 v4 s0 (pb_I h q5 s0.toNatClampNeg)) else (f_118_53 F N (pb_pI h q5 s0.toNatClampNeg ((pb_I h q5 s0.toNatClampNeg) ||| ((1 : Int32) <<< (v2 &&& 31)))) v0 v1 v3 v4 s0 (pb_I h q5 s0.toNatClampNeg))) else none)) else none)) else none
/-- Trial.outcomeBehind -/
def f_118 (F : pb_HP → Nat → Int32 → Int32 → Int32 → Option (Int32 × pb_HP)) (N : Nat) (h : pb_HP) (v0 : Nat) (v1 : Int32) (v2 : Int32) (v3 : Int32) (v4 : Int32) : Option (Int32 × pb_HP) :=
  if ¬ (v1 - v1 / 2 * 2) = 0 then (if pb_is h v0 8 then (f_118_17 F N h v0 v1 v2 v3 v4 (pb_I h v0 3)) else none) else (if pb_is h v0 8 then (f_118_17 F N h v0 v1 v2 v3 v4 (pb_I h v0 2)) else none)
set_option maxRecDepth 4000 in
theorem l_118 {xs : List Int32} {d : Nat} {N : Nat} {h : pb_HP} {v0 : Nat} {v1 : Int32} {v2 : Int32} {v3 : Int32} {v4 : Int32} {r : Int32} {hE : pb_HP} {F : pb_HP → Nat → Int32 → Int32 → Int32 → Option (Int32 × pb_HP)} (hF : ∀ {h hE : pb_HP} {x0 : Nat} {x1 : Int32} {x2 : Int32} {x3 : Int32} {r : Int32}, F h x0 x1 x2 x3 = some (r, hE) → pb_AR xs (d + 10) 117 h [.ref x0, .int x1, .int x2, .int x3] (some (.int r)) hE) (hf : f_118 F N h v0 v1 v2 v3 v4 = some ((r, hE))) : pb_AR xs (d + 11) 118 h [.ref v0, .int v1, .int v2, .int v3, .int v4] (some (.int r)) hE := by
  intro G hG
  have hc_ : pb_CODE 118 = kc_118 := rfl
  rw [hc_] at hG
  have hj_53 : ∀ (h : pb_HP) (v0 : Nat) (v1 : Int32) (v3 : Int32) (v4 : Int32) (v5 : Int32) (v6 : Int32), f_118_53 F N h v0 v1 v3 v4 v5 v6 = some ((r, hE)) → G 53 [(0, .ref v0), (1, .int v1), (3, .int v3), (4, .int v4), (5, .int v5), (6, .int v6)] [] h := by
    intro h v0 v1 v3 v4 v5 v6 hf
    unfold f_118_53 at hf
    refine hG.1 3 53 kb_118_53 _ _ _ rfl ?_
    obtain ⟨hg7, hf⟩ := pb_gd hf
    obtain ⟨⟨r8, h9⟩, cr8, hf⟩ := Option.bind_eq_some_iff.mp hf
    try dsimp only at hf
    refine And.intro hg7 (And.intro (Nat.le_of_ble_eq_true rfl) (And.intro (Nat.le_of_ble_eq_true rfl) (Exists.intro (some (.int r8)) (Exists.intro _ (And.intro (hF cr8) (?_))))))
    obtain ⟨hg10, hf⟩ := pb_gd hf
    obtain ⟨q11, eq11, hf⟩ := Option.bind_eq_some_iff.mp hf
    obtain ⟨hg12, hf⟩ := pb_gd hf
    obtain ⟨q13, eq13, hf⟩ := Option.bind_eq_some_iff.mp hf
    obtain ⟨hg14, hf⟩ := pb_gd hf
    refine And.intro hg10 (Exists.intro q11 (And.intro eq11 (And.intro hg12 (Exists.intro q13 (And.intro eq13 (And.intro hg14 (?_)))))))
    cases hf
    exact And.intro (fun z_ => absurd z_ (by decide)) (And.intro rfl rfl)
  have hj_17 : ∀ (h : pb_HP) (v0 : Nat) (v1 : Int32) (v2 : Int32) (v3 : Int32) (v4 : Int32) (s0 : Int32), f_118_17 F N h v0 v1 v2 v3 v4 s0 = some ((r, hE)) → G 17 [(0, .ref v0), (1, .int v1), (2, .int v2), (3, .int v3), (4, .int v4)] [.int s0] h := by
    intro h v0 v1 v2 v3 v4 s0 hf
    unfold f_118_17 at hf
    refine hG.1 2 17 kb_118_17 _ _ _ rfl ?_
    obtain ⟨hg2, hf⟩ := pb_gd hf
    obtain ⟨q3, eq3, hf⟩ := Option.bind_eq_some_iff.mp hf
    obtain ⟨hg4, hf⟩ := pb_gd hf
    obtain ⟨q5, eq5, hf⟩ := Option.bind_eq_some_iff.mp hf
    obtain ⟨hg6, hf⟩ := pb_gd hf
    refine And.intro hg2 (Exists.intro q3 (And.intro eq3 (And.intro hg4 (Exists.intro q5 (And.intro eq5 (And.intro hg6 (?_)))))))
    refine And.intro (fun (hc15 : v2 = 6) => ?_) (fun (hc15 : ¬ (v2 = 6)) => ?_)
    · rw [if_pos hc15] at hf
      refine hG.2 53 _ [0, 1, 3, 4, 5, 6] _ _ _ rfl ?_
      exact hj_53 _ _ _ _ _ _ _ hf
    · rw [if_neg hc15] at hf
      refine And.intro hg2 (Exists.intro q3 (And.intro eq3 (And.intro hg4 (Exists.intro q5 (And.intro eq5 (And.intro hg6 (?_)))))))
      refine hG.2 53 _ [0, 1, 3, 4, 5, 6] _ _ _ rfl ?_
      exact hj_53 _ _ _ _ _ _ _ hf
  unfold f_118 at hf
  refine hG.1 0 0 kb_118_0 _ _ _ rfl ?_
  refine And.intro (by decide) (?_)
  refine And.intro (fun (hc17 : ¬ (v1 - v1 / 2 * 2) = 0) => ?_) (fun (hc17 : ¬ (¬ (v1 - v1 / 2 * 2) = 0)) => ?_)
  · rw [if_pos hc17] at hf
    refine hG.1 1 13 kb_118_13 _ _ _ rfl ?_
    obtain ⟨hg1, hf⟩ := pb_gd hf
    refine And.intro hg1 (?_)
    exact hj_17 _ _ _ _ _ _ _ hf
  · rw [if_neg hc17] at hf
    obtain ⟨hg16, hf⟩ := pb_gd hf
    refine And.intro hg16 (?_)
    exact hj_17 _ _ _ _ _ _ _ hf
def f_121_40s (F : pb_HP → Nat → Nat → Int32 → Int32 → Option (Int32 × pb_HP)) (N : Nat) (v0 : Nat) (v1 : Nat) (v2 : Int32) (v3 : Int32) (s : Int32 × pb_HP) : Option ((Int32 × pb_HP) ⊕ ((Int32 × pb_HP) ⊕ (pb_HP))) :=
  if v3 ≤ s.1 then (some (.inr (.inr s.2))) else (if pb_is s.2 v0 9 then ((pb_R s.2 v0 0).bind fun q5 => (if pb_ar s.2 q5 12 v2 then ((f_122 N (pb_pI s.2 q5 v2.toNatClampNeg s.1) v0 v1 v2).bind fun r7 => (if r7 = 0 then (some (.inl ((s.1 + 1, pb_pI s.2 q5 v2.toNatClampNeg s.1)))) else ((F (pb_pI s.2 q5 v2.toNatClampNeg s.1) v0 v1 (v2 + 1) v3).bind fun (r8, h9) => (if r8 = 0 then (some (.inl ((s.1 + 1, h9)))) else (some (.inr (.inl ((1, h9))))))))) else none)) else none)
/-- Wings.place -/
def f_121 (F : pb_HP → Nat → Nat → Int32 → Int32 → Option (Int32 × pb_HP)) (N : Nat) (h : pb_HP) (v0 : Nat) (v1 : Nat) (v2 : Int32) (v3 : Int32) : Option (Int32 × pb_HP) :=
  if pb_is h v1 0 then (if v2 < (pb_I h v1 1) then ((pb_R h v1 5).bind fun q2 => (if pb_ar h q2 12 v2 then (if 0 < (pb_I h q2 v2.toNatClampNeg) then ((pb_wl (f_121_40s F N v0 v1 v2 v3) N ((0, h))).bind fun e13 => (match e13 with | .inl q15 => some q15 | .inr x14 => some ((0, x14)))) else (if pb_is h v0 9 then ((pb_R h v0 0).bind fun q17 => (if pb_ar h q17 12 v2 then ((F (pb_pI h q17 v2.toNatClampNeg 6) v0 v1 (v2 + 1) v3).bind fun (r19, h20) => (if r19 = 0 ∨ r19 = 1 then (some ((r19, h20))) else none)) else none)) else none)) else none)) else (some ((1, h)))) else none
set_option maxRecDepth 4000 in
theorem l_121 {xs : List Int32} {d : Nat} {N : Nat} {h : pb_HP} {v0 : Nat} {v1 : Nat} {v2 : Int32} {v3 : Int32} {r : Int32} {hE : pb_HP} {F : pb_HP → Nat → Nat → Int32 → Int32 → Option (Int32 × pb_HP)} (hF : ∀ {h hE : pb_HP} {x0 : Nat} {x1 : Nat} {x2 : Int32} {x3 : Int32} {r : Int32}, F h x0 x1 x2 x3 = some (r, hE) → pb_AR xs (d + 10) 121 h [.ref x0, .ref x1, .int x2, .int x3] (some (.int r)) hE) (hf : f_121 F N h v0 v1 v2 v3 = some ((r, hE))) : pb_AR xs (d + 11) 121 h [.ref v0, .ref v1, .int v2, .int v3] (some (.int r)) hE := by
  intro G hG
  have hc_ : pb_CODE 121 = kc_121 := rfl
  rw [hc_] at hG
  have hl_40 : ∀ (v0 : Nat) (v1 : Nat) (v2 : Int32) (v3 : Int32) (n_ : Nat) (s : Int32 × pb_HP) (e : (Int32 × pb_HP) ⊕ (pb_HP)), pb_wl (f_121_40s F N v0 v1 v2 v3) n_ s = some e → pb_kk (fun (q_ : Int32 × pb_HP) => q_ = (r, hE)) (fun (x_ : pb_HP) => G 83 [] [] x_) e → G 40 [(0, .ref v0), (1, .ref v1), (2, .int v2), (3, .int v3), (4, .int s.1)] [] s.2 := by
    intro v0 v1 v2 v3
    refine pb_wl_ind (I := fun (s : Int32 × pb_HP) => G 40 [(0, .ref v0), (1, .ref v1), (2, .int v2), (3, .int v3), (4, .int s.1)] [] s.2) (K := fun (e : (Int32 × pb_HP) ⊕ (pb_HP)) => pb_kk (fun (q_ : Int32 × pb_HP) => q_ = (r, hE)) (fun (x_ : pb_HP) => G 83 [] [] x_) e) (fun s x hf hk => ?_)
    unfold f_121_40s at hf
    refine hG.1 3 40 kb_121_40 _ _ _ rfl ?_
    refine And.intro (fun (hc12 : v3 ≤ s.1) => ?_) (fun (hc12 : ¬ (v3 ≤ s.1)) => ?_)
    · rw [if_pos hc12] at hf
      cases hf
      exact hG.2 83 _ [] _ _ _ rfl hk
    · rw [if_neg hc12] at hf
      obtain ⟨hg4, hf⟩ := pb_gd hf
      obtain ⟨q5, eq5, hf⟩ := Option.bind_eq_some_iff.mp hf
      obtain ⟨hg6, hf⟩ := pb_gd hf
      refine And.intro hg4 (Exists.intro q5 (And.intro eq5 (And.intro hg6 (?_))))
      obtain ⟨r7, cr7, hf⟩ := Option.bind_eq_some_iff.mp hf
      refine And.intro hg4 (And.intro (Nat.le_of_ble_eq_true rfl) (And.intro (Nat.le_of_ble_eq_true rfl) (Exists.intro (some (.int r7)) (Exists.intro _ (And.intro (l_122 cr7) (?_))))))
      refine And.intro (fun (hc11 : r7 = 0) => ?_) (fun (hc11 : ¬ (r7 = 0)) => ?_)
      · rw [if_pos hc11] at hf
        refine hG.1 4 77 kb_121_77 _ _ _ rfl ?_
        cases hf
        exact hk
      · rw [if_neg hc11] at hf
        obtain ⟨⟨r8, h9⟩, cr8, hf⟩ := Option.bind_eq_some_iff.mp hf
        try dsimp only at hf
        refine And.intro hg4 (And.intro (Nat.le_of_ble_eq_true rfl) (And.intro (Nat.le_of_ble_eq_true rfl) (Exists.intro (some (.int r8)) (Exists.intro _ (And.intro (hF cr8) (?_))))))
        refine And.intro (fun (hc10 : r8 = 0) => ?_) (fun (hc10 : ¬ (r8 = 0)) => ?_)
        · rw [if_pos hc10] at hf
          refine hG.1 4 77 kb_121_77 _ _ _ rfl ?_
          cases hf
          exact hk
        · rw [if_neg hc10] at hf
          cases hf
          cases hk
          exact And.intro (fun _ => Or.inr rfl) (And.intro rfl rfl)
  unfold f_121 at hf
  refine hG.1 0 0 kb_121_0 _ _ _ rfl ?_
  obtain ⟨hg1, hf⟩ := pb_gd hf
  refine And.intro hg1 (?_)
  refine And.intro (fun (hc23 : v2 < (pb_I h v1 1)) => ?_) (fun (hc23 : ¬ (v2 < (pb_I h v1 1))) => ?_)
  · rw [if_pos hc23] at hf
    refine hG.1 1 10 kb_121_10 _ _ _ rfl ?_
    obtain ⟨q2, eq2, hf⟩ := Option.bind_eq_some_iff.mp hf
    obtain ⟨hg3, hf⟩ := pb_gd hf
    refine And.intro hg1 (Exists.intro q2 (And.intro eq2 (And.intro hg3 (?_))))
    refine And.intro (fun (hc22 : 0 < (pb_I h q2 v2.toNatClampNeg)) => ?_) (fun (hc22 : ¬ (0 < (pb_I h q2 v2.toNatClampNeg))) => ?_)
    · rw [if_pos hc22] at hf
      refine hG.1 2 37 kb_121_37 _ _ _ rfl ?_
      obtain ⟨e13, he_e13, hf⟩ := Option.bind_eq_some_iff.mp hf
      refine hl_40 _ _ _ _ _ _ _ he_e13 ?_
      cases e13 with
      | inl q15 =>
        exact Option.some.inj hf
      | inr x14 =>
        try dsimp only at hf
        refine hG.1 5 83 kb_121_83 _ _ _ rfl ?_
        cases hf
        exact And.intro (fun _ => Or.inl rfl) (And.intro rfl rfl)
    · rw [if_neg hc22] at hf
      obtain ⟨hg16, hf⟩ := pb_gd hf
      obtain ⟨q17, eq17, hf⟩ := Option.bind_eq_some_iff.mp hf
      obtain ⟨hg18, hf⟩ := pb_gd hf
      refine And.intro hg16 (Exists.intro q17 (And.intro eq17 (And.intro hg18 (?_))))
      obtain ⟨⟨r19, h20⟩, cr19, hf⟩ := Option.bind_eq_some_iff.mp hf
      try dsimp only at hf
      refine And.intro hg16 (And.intro (Nat.le_of_ble_eq_true rfl) (And.intro (Nat.le_of_ble_eq_true rfl) (Exists.intro (some (.int r19)) (Exists.intro _ (And.intro (hF cr19) (?_))))))
      obtain ⟨hg21, hf⟩ := pb_gd hf
      cases hf
      exact And.intro (fun _ => hg21) (And.intro rfl rfl)
  · rw [if_neg hc23] at hf
    cases hf
    exact And.intro (fun _ => Or.inr rfl) (And.intro rfl rfl)
def f_117_82s (F : pb_HP → Nat → Int32 → Int32 → Int32 → Option (Int32 × pb_HP)) (N : Nat) (v0 : Nat) (v1 : Int32) (v4 : Int32) (v5 : Int32) (s : Int32 × Int32 × Int32 × pb_HP) : Option ((Int32 × Int32 × Int32 × pb_HP) ⊕ (Int32 × Int32 × pb_HP)) :=
  if 6 < s.2.2.1 then (some (.inr ((s.1, s.2.1, s.2.2.2)))) else (if s.2.1 ≤ s.1 then (some (.inr ((s.1, s.2.1, s.2.2.2)))) else (if pb_is s.2.2.2 v0 8 then ((f_116 s.2.2.2 v0 v5 s.2.2.1).bind fun r4 => (if r4 = 0 then (some (.inl ((s.1, s.2.1, s.2.2.1 + 1, s.2.2.2)))) else ((f_118 F N s.2.2.2 v0 v1 s.2.2.1 s.1 s.2.1).bind fun (r5, h6) => (if v4 = 0 then (some (.inl ((s.1, if r5 < s.2.1 then r5 else s.2.1, s.2.2.1 + 1, h6)))) else (some (.inl ((if s.1 < r5 then r5 else s.1, s.2.1, s.2.2.1 + 1, h6)))))))) else none))
def f_117_152 (F : pb_HP → Nat → Int32 → Int32 → Int32 → Option (Int32 × pb_HP)) (N : Nat) (h : pb_HP) (v4 : Int32) (v6 : Int32) (v7 : Int32) : Option (Int32 × pb_HP) :=
  if v4 = 0 then (some ((v7, h))) else (some ((v6, h)))
def f_117_71 (F : pb_HP → Nat → Int32 → Int32 → Int32 → Option (Int32 × pb_HP)) (N : Nat) (h : pb_HP) (v0 : Nat) (v1 : Int32) (v2 : Int32) (v3 : Int32) (v4 : Int32) (s0 : Int32) : Option (Int32 × pb_HP) :=
  (pb_wl (f_117_82s F N v0 v1 v4 s0) N ((v2, v3, 0, h))).bind fun e11 => (f_117_152 F N e11.2.2 v4 e11.1 e11.2.1)
def f_117_53 (F : pb_HP → Nat → Int32 → Int32 → Int32 → Option (Int32 × pb_HP)) (N : Nat) (h : pb_HP) (v0 : Nat) (v1 : Int32) (v2 : Int32) (v3 : Int32) (s0 : Int32) : Option (Int32 × pb_HP) :=
  if s0 = 0 then (if pb_is h v0 8 then (f_117_71 F N h v0 v1 v2 v3 s0 (pb_I h v0 3)) else none) else (if pb_is h v0 8 then (f_117_71 F N h v0 v1 v2 v3 s0 (pb_I h v0 2)) else none)
/-- Trial.outcome -/
def f_117 (F : pb_HP → Nat → Int32 → Int32 → Int32 → Option (Int32 × pb_HP)) (N : Nat) (h : pb_HP) (v0 : Nat) (v1 : Int32) (v2 : Int32) (v3 : Int32) : Option (Int32 × pb_HP) :=
  if pb_is h v0 8 then (if v1 < (pb_I h v0 4) then (if ¬ (v1 - v1 / 2 * 2) = 0 then (f_117_53 F N h v0 v1 v2 v3 0) else (f_117_53 F N h v0 v1 v2 v3 1)) else ((f_109 N h v0).bind fun (r16, h17) => (if pb_is h17 v0 8 then (if ¬ r16 = (pb_I h17 v0 2) then (if ¬ r16 = (pb_I h17 v0 3) then (some ((0, h17))) else (some (((-1), h17)))) else (some ((1, h17)))) else none))) else none
set_option maxRecDepth 4000 in
theorem l_117 {xs : List Int32} {d : Nat} {N : Nat} {h : pb_HP} {v0 : Nat} {v1 : Int32} {v2 : Int32} {v3 : Int32} {r : Int32} {hE : pb_HP} {F : pb_HP → Nat → Int32 → Int32 → Int32 → Option (Int32 × pb_HP)} (hF : ∀ {h hE : pb_HP} {x0 : Nat} {x1 : Int32} {x2 : Int32} {x3 : Int32} {r : Int32}, F h x0 x1 x2 x3 = some (r, hE) → pb_AR xs (d + 10) 117 h [.ref x0, .int x1, .int x2, .int x3] (some (.int r)) hE) (hf : f_117 F N h v0 v1 v2 v3 = some ((r, hE))) : pb_AR xs (d + 12) 117 h [.ref v0, .int v1, .int v2, .int v3] (some (.int r)) hE := by
  intro G hG
  have hc_ : pb_CODE 117 = kc_117 := rfl
  rw [hc_] at hG
  have hl_82 : ∀ (v0 : Nat) (v1 : Int32) (v4 : Int32) (v5 : Int32) (n_ : Nat) (s : Int32 × Int32 × Int32 × pb_HP) (e : Int32 × Int32 × pb_HP), pb_wl (f_117_82s F N v0 v1 v4 v5) n_ s = some e → G 152 [(4, .int v4), (6, .int e.1), (7, .int e.2.1)] [] e.2.2 → G 82 [(0, .ref v0), (1, .int v1), (4, .int v4), (5, .int v5), (6, .int s.1), (7, .int s.2.1), (8, .int s.2.2.1)] [] s.2.2.2 := by
    intro v0 v1 v4 v5
    refine pb_wl_ind (I := fun (s : Int32 × Int32 × Int32 × pb_HP) => G 82 [(0, .ref v0), (1, .int v1), (4, .int v4), (5, .int v5), (6, .int s.1), (7, .int s.2.1), (8, .int s.2.2.1)] [] s.2.2.2) (K := fun (e : Int32 × Int32 × pb_HP) => G 152 [(4, .int v4), (6, .int e.1), (7, .int e.2.1)] [] e.2.2) (fun s x hf hk => ?_)
    unfold f_117_82s at hf
    refine hG.1 9 82 kb_117_82 _ _ _ rfl ?_
    refine And.intro (fun (hc10 : 6 < s.2.2.1) => ?_) (fun (hc10 : ¬ (6 < s.2.2.1)) => ?_)
    · rw [if_pos hc10] at hf
      cases hf
      exact hG.2 152 _ [2, 4, 5] _ _ _ rfl hk
    · rw [if_neg hc10] at hf
      refine And.intro (fun (hc9 : s.2.1 ≤ s.1) => ?_) (fun (hc9 : ¬ (s.2.1 ≤ s.1)) => ?_)
      · rw [if_pos hc9] at hf
        cases hf
        exact hG.2 152 _ [2, 4, 5] _ _ _ rfl hk
      · rw [if_neg hc9] at hf
        obtain ⟨hg3, hf⟩ := pb_gd hf
        obtain ⟨r4, cr4, hf⟩ := Option.bind_eq_some_iff.mp hf
        refine And.intro hg3 (And.intro (Nat.le_of_ble_eq_true rfl) (And.intro (Nat.le_of_ble_eq_true rfl) (Exists.intro (some (.int r4)) (Exists.intro _ (And.intro (l_116 cr4) (?_))))))
        refine And.intro (fun (hc8 : r4 = 0) => ?_) (fun (hc8 : ¬ (r4 = 0)) => ?_)
        · rw [if_pos hc8] at hf
          refine hG.1 11 146 kb_117_146 _ _ _ rfl ?_
          cases hf
          exact hk
        · rw [if_neg hc8] at hf
          obtain ⟨⟨r5, h6⟩, cr5, hf⟩ := Option.bind_eq_some_iff.mp hf
          try dsimp only at hf
          refine And.intro hg3 (And.intro (Nat.le_of_ble_eq_true rfl) (And.intro (Nat.le_of_ble_eq_true rfl) (Exists.intro (some (.int r5)) (Exists.intro _ (And.intro (l_118 hF cr5) (?_))))))
          refine And.intro (fun (hc7 : v4 = 0) => ?_) (fun (hc7 : ¬ (v4 = 0)) => ?_)
          · rw [if_pos hc7] at hf
            refine hG.1 10 137 kb_117_137 _ _ _ rfl ?_
            refine And.intro (Nat.le_of_ble_eq_true rfl) (?_)
            refine hG.1 11 146 kb_117_146 _ _ _ rfl ?_
            cases hf
            exact hG.2 82 _ [0, 1, 2, 3, 4, 5, 6] _ _ _ rfl hk
          · rw [if_neg hc7] at hf
            refine And.intro (Nat.le_of_ble_eq_true rfl) (?_)
            refine hG.1 11 146 kb_117_146 _ _ _ rfl ?_
            cases hf
            exact hG.2 82 _ [0, 1, 2, 3, 4, 5, 6] _ _ _ rfl hk
  have hj_152 : ∀ (h : pb_HP) (v4 : Int32) (v6 : Int32) (v7 : Int32), f_117_152 F N h v4 v6 v7 = some ((r, hE)) → G 152 [(4, .int v4), (6, .int v6), (7, .int v7)] [] h := by
    intro h v4 v6 v7 hf
    unfold f_117_152 at hf
    refine hG.1 12 152 kb_117_152 _ _ _ rfl ?_
    refine And.intro (fun (hc12 : v4 = 0) => ?_) (fun (hc12 : ¬ (v4 = 0)) => ?_)
    · rw [if_pos hc12] at hf
      refine hG.1 13 162 kb_117_162 _ _ _ rfl ?_
      refine hG.1 14 164 kb_117_164 _ _ _ rfl ?_
      cases hf
      exact And.intro (fun z_ => absurd z_ (by decide)) (And.intro rfl rfl)
    · rw [if_neg hc12] at hf
      refine hG.1 14 164 kb_117_164 _ _ _ rfl ?_
      cases hf
      exact And.intro (fun z_ => absurd z_ (by decide)) (And.intro rfl rfl)
  have hj_71 : ∀ (h : pb_HP) (v0 : Nat) (v1 : Int32) (v2 : Int32) (v3 : Int32) (v4 : Int32) (s0 : Int32), f_117_71 F N h v0 v1 v2 v3 v4 s0 = some ((r, hE)) → G 71 [(0, .ref v0), (1, .int v1), (2, .int v2), (3, .int v3), (4, .int v4)] [.int s0] h := by
    intro h v0 v1 v2 v3 v4 s0 hf
    unfold f_117_71 at hf
    refine hG.1 8 71 kb_117_71 _ _ _ rfl ?_
    obtain ⟨e11, he_e11, hf⟩ := Option.bind_eq_some_iff.mp hf
    refine hG.2 82 _ [0, 1, 4, 5, 6, 7, 8] _ _ _ rfl ?_
    refine hl_82 _ _ _ _ _ _ _ he_e11 ?_
    exact hj_152 _ _ _ _ hf
  have hj_53 : ∀ (h : pb_HP) (v0 : Nat) (v1 : Int32) (v2 : Int32) (v3 : Int32) (s0 : Int32), f_117_53 F N h v0 v1 v2 v3 s0 = some ((r, hE)) → G 53 [(0, .ref v0), (1, .int v1), (2, .int v2), (3, .int v3)] [.int s0] h := by
    intro h v0 v1 v2 v3 s0 hf
    unfold f_117_53 at hf
    refine hG.1 6 53 kb_117_53 _ _ _ rfl ?_
    refine And.intro (fun (hc14 : s0 = 0) => ?_) (fun (hc14 : ¬ (s0 = 0)) => ?_)
    · rw [if_pos hc14] at hf
      refine hG.1 7 67 kb_117_67 _ _ _ rfl ?_
      obtain ⟨hg2, hf⟩ := pb_gd hf
      refine And.intro hg2 (?_)
      exact hj_71 _ _ _ _ _ _ _ hf
    · rw [if_neg hc14] at hf
      obtain ⟨hg13, hf⟩ := pb_gd hf
      refine And.intro hg13 (?_)
      exact hj_71 _ _ _ _ _ _ _ hf
  unfold f_117 at hf
  refine hG.1 0 0 kb_117_0 _ _ _ rfl ?_
  obtain ⟨hg1, hf⟩ := pb_gd hf
  refine And.intro hg1 (?_)
  refine And.intro (fun (hc21 : v1 < (pb_I h v0 4)) => ?_) (fun (hc21 : ¬ (v1 < (pb_I h v0 4))) => ?_)
  · rw [if_pos hc21] at hf
    refine hG.1 4 42 kb_117_42 _ _ _ rfl ?_
    refine And.intro (by decide) (?_)
    refine And.intro (fun (hc15 : ¬ (v1 - v1 / 2 * 2) = 0) => ?_) (fun (hc15 : ¬ (¬ (v1 - v1 / 2 * 2) = 0)) => ?_)
    · rw [if_pos hc15] at hf
      refine hG.1 5 52 kb_117_52 _ _ _ rfl ?_
      exact hj_53 _ _ _ _ _ _ hf
    · rw [if_neg hc15] at hf
      exact hj_53 _ _ _ _ _ _ hf
  · rw [if_neg hc21] at hf
    obtain ⟨⟨r16, h17⟩, cr16, hf⟩ := Option.bind_eq_some_iff.mp hf
    try dsimp only at hf
    refine And.intro hg1 (And.intro (Nat.le_of_ble_eq_true rfl) (And.intro (Nat.le_of_ble_eq_true rfl) (Exists.intro (some (.int r16)) (Exists.intro _ (And.intro (l_109 cr16) (?_))))))
    obtain ⟨hg18, hf⟩ := pb_gd hf
    refine And.intro hg18 (?_)
    refine And.intro (fun (hc20 : ¬ r16 = (pb_I h17 v0 2)) => ?_) (fun (hc20 : ¬ (¬ r16 = (pb_I h17 v0 2))) => ?_)
    · rw [if_pos hc20] at hf
      refine hG.1 1 27 kb_117_27 _ _ _ rfl ?_
      refine And.intro hg18 (?_)
      refine And.intro (fun (hc19 : ¬ r16 = (pb_I h17 v0 3)) => ?_) (fun (hc19 : ¬ (¬ r16 = (pb_I h17 v0 3))) => ?_)
      · rw [if_pos hc19] at hf
        refine hG.1 2 40 kb_117_40 _ _ _ rfl ?_
        refine hG.1 3 41 kb_117_41 _ _ _ rfl ?_
        cases hf
        exact And.intro (fun z_ => absurd z_ (by decide)) (And.intro rfl rfl)
      · rw [if_neg hc19] at hf
        refine hG.1 3 41 kb_117_41 _ _ _ rfl ?_
        cases hf
        exact And.intro (fun z_ => absurd z_ (by decide)) (And.intro rfl rfl)
    · rw [if_neg hc20] at hf
      refine hG.1 3 41 kb_117_41 _ _ _ rfl ?_
      cases hf
      exact And.intro (fun z_ => absurd z_ (by decide)) (And.intro rfl rfl)
