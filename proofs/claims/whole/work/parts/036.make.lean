/-- County.<init> -/
def f_0 (h : pb_HP) (v0 : Nat) : Option (pb_HP) :=
  if pb_SH h.1 = (12, ((6 : Int32)).toNatClampNeg) then (if pb_is (pb_nw h) v0 0 then (if pb_SH (pb_pR (pb_nw h) v0 2 (some h.1)).1 = (12, ((6 : Int32)).toNatClampNeg) then (if pb_is (pb_nw (pb_pR (pb_nw h) v0 2 (some h.1))) v0 0 then (if pb_SH (pb_pR (pb_nw (pb_pR (pb_nw h) v0 2 (some h.1))) v0 3 (some ((pb_pR (pb_nw h) v0 2 (some h.1)).1))).1 = (12, ((6 : Int32)).toNatClampNeg) then (if pb_is (pb_nw (pb_pR (pb_nw (pb_pR (pb_nw h) v0 2 (some h.1))) v0 3 (some ((pb_pR (pb_nw h) v0 2 (some h.1)).1)))) v0 0 then (pb_hb (pb_pR (pb_nw (pb_pR (pb_nw (pb_pR (pb_nw h) v0 2 (some h.1))) v0 3 (some ((pb_pR (pb_nw h) v0 2 (some h.1)).1)))) v0 4 (some ((pb_pR (pb_nw (pb_pR (pb_nw h) v0 2 (some h.1))) v0 3 (some ((pb_pR (pb_nw h) v0 2 (some h.1)).1))).1))) fun h7 => (if pb_SH h7.1 = (12, ((6 : Int32)).toNatClampNeg) then (if pb_is (pb_nw h7) v0 0 then (if pb_SH (pb_pR (pb_nw h7) v0 5 (some h7.1)).1 = (12, ((6 : Int32)).toNatClampNeg) then (if pb_is (pb_nw (pb_pR (pb_nw h7) v0 5 (some h7.1))) v0 0 then (if pb_SH (pb_pR (pb_nw (pb_pR (pb_nw h7) v0 5 (some h7.1))) v0 6 (some ((pb_pR (pb_nw h7) v0 5 (some h7.1)).1))).1 = (12, ((36 : Int32)).toNatClampNeg) then (if pb_is (pb_nw (pb_pR (pb_nw (pb_pR (pb_nw h7) v0 5 (some h7.1))) v0 6 (some ((pb_pR (pb_nw h7) v0 5 (some h7.1)).1)))) v0 0 then (pb_hb (pb_pR (pb_nw (pb_pR (pb_nw (pb_pR (pb_nw h7) v0 5 (some h7.1))) v0 6 (some ((pb_pR (pb_nw h7) v0 5 (some h7.1)).1)))) v0 7 (some ((pb_pR (pb_nw (pb_pR (pb_nw h7) v0 5 (some h7.1))) v0 6 (some ((pb_pR (pb_nw h7) v0 5 (some h7.1)).1))).1))) fun h14 => (some h14)) else none) else none) else none) else none) else none) else none)) else none) else none) else none) else none) else none) else none
set_option maxRecDepth 4000 in
theorem l_0 {xs : List Int32} {d : Nat} {h : pb_HP} {v0 : Nat} {hE : pb_HP} (hf : f_0 h v0 = some hE) : pb_AR xs (d + 1) 0 h [.ref v0] none hE := by
  intro G hG
  have hc_ : pb_CODE 0 = kc_0 := rfl
  rw [hc_] at hG
  unfold f_0 at hf
  refine hG.1 0 0 kb_0_0 _ _ _ rfl ?_
  obtain ⟨hg1, hf⟩ := pb_gd hf
  obtain ⟨hg2, hf⟩ := pb_gd hf
  obtain ⟨hg3, hf⟩ := pb_gd hf
  obtain ⟨hg4, hf⟩ := pb_gd hf
  obtain ⟨hg5, hf⟩ := pb_gd hf
  obtain ⟨hg6, hf⟩ := pb_gd hf
  refine And.intro (Nat.le_of_ble_eq_true rfl) (And.intro (by decide) (And.intro hg1 (And.intro hg2 (And.intro (by decide) (And.intro hg3 (And.intro hg4 (And.intro (by decide) (And.intro hg5 (And.intro hg6 (?_))))))))))
  refine pb_hset (E := pb_pR (pb_nw (pb_pR (pb_nw (pb_pR (pb_nw h) v0 2 (some h.1))) v0 3 (some ((pb_pR (pb_nw h) v0 2 (some h.1)).1)))) v0 4 (some ((pb_pR (pb_nw (pb_pR (pb_nw h) v0 2 (some h.1))) v0 3 (some ((pb_pR (pb_nw h) v0 2 (some h.1)).1))).1))) rfl (fun h7 eh7 => ?_)
  have hf := pb_hbd hf eh7
  obtain ⟨hg8, hf⟩ := pb_gd hf
  obtain ⟨hg9, hf⟩ := pb_gd hf
  obtain ⟨hg10, hf⟩ := pb_gd hf
  obtain ⟨hg11, hf⟩ := pb_gd hf
  obtain ⟨hg12, hf⟩ := pb_gd hf
  obtain ⟨hg13, hf⟩ := pb_gd hf
  refine And.intro (by decide) (And.intro hg8 (And.intro hg9 (And.intro (by decide) (And.intro hg10 (And.intro hg11 (And.intro (by decide) (And.intro hg12 (And.intro hg13 (?_)))))))))
  refine pb_hset (E := pb_pR (pb_nw (pb_pR (pb_nw (pb_pR (pb_nw h7) v0 5 (some h7.1))) v0 6 (some ((pb_pR (pb_nw h7) v0 5 (some h7.1)).1)))) v0 7 (some ((pb_pR (pb_nw (pb_pR (pb_nw h7) v0 5 (some h7.1))) v0 6 (some ((pb_pR (pb_nw h7) v0 5 (some h7.1)).1))).1))) rfl (fun h14 eh14 => ?_)
  have hf := pb_hbd hf eh14
  cases hf
  exact And.intro rfl rfl
/-- Duels.<init> -/
def f_49 (h : pb_HP) (v0 : Nat) : Option (pb_HP) :=
  if pb_SH h.1 = (12, ((6 : Int32)).toNatClampNeg) then (if pb_is (pb_nw h) v0 2 then (if pb_SH (pb_pR (pb_nw h) v0 0 (some h.1)).1 = (12, ((36 : Int32)).toNatClampNeg) then (if pb_is (pb_nw (pb_pR (pb_nw h) v0 0 (some h.1))) v0 2 then (if pb_SH (pb_pR (pb_nw (pb_pR (pb_nw h) v0 0 (some h.1))) v0 2 (some ((pb_pR (pb_nw h) v0 0 (some h.1)).1))).1 = (12, ((6 : Int32)).toNatClampNeg) then (if pb_is (pb_nw (pb_pR (pb_nw (pb_pR (pb_nw h) v0 0 (some h.1))) v0 2 (some ((pb_pR (pb_nw h) v0 0 (some h.1)).1)))) v0 2 then (pb_hb (pb_pR (pb_nw (pb_pR (pb_nw (pb_pR (pb_nw h) v0 0 (some h.1))) v0 2 (some ((pb_pR (pb_nw h) v0 0 (some h.1)).1)))) v0 3 (some ((pb_pR (pb_nw (pb_pR (pb_nw h) v0 0 (some h.1))) v0 2 (some ((pb_pR (pb_nw h) v0 0 (some h.1)).1))).1))) fun h7 => (some h7)) else none) else none) else none) else none) else none) else none
set_option maxRecDepth 4000 in
theorem l_49 {xs : List Int32} {d : Nat} {h : pb_HP} {v0 : Nat} {hE : pb_HP} (hf : f_49 h v0 = some hE) : pb_AR xs (d + 1) 49 h [.ref v0] none hE := by
  intro G hG
  have hc_ : pb_CODE 49 = kc_49 := rfl
  rw [hc_] at hG
  unfold f_49 at hf
  refine hG.1 0 0 kb_49_0 _ _ _ rfl ?_
  obtain ⟨hg1, hf⟩ := pb_gd hf
  obtain ⟨hg2, hf⟩ := pb_gd hf
  obtain ⟨hg3, hf⟩ := pb_gd hf
  obtain ⟨hg4, hf⟩ := pb_gd hf
  obtain ⟨hg5, hf⟩ := pb_gd hf
  obtain ⟨hg6, hf⟩ := pb_gd hf
  refine And.intro (Nat.le_of_ble_eq_true rfl) (And.intro (by decide) (And.intro hg1 (And.intro hg2 (And.intro (by decide) (And.intro hg3 (And.intro hg4 (And.intro (by decide) (And.intro hg5 (And.intro hg6 (?_))))))))))
  refine pb_hset (E := pb_pR (pb_nw (pb_pR (pb_nw (pb_pR (pb_nw h) v0 0 (some h.1))) v0 2 (some ((pb_pR (pb_nw h) v0 0 (some h.1)).1)))) v0 3 (some ((pb_pR (pb_nw (pb_pR (pb_nw h) v0 0 (some h.1))) v0 2 (some ((pb_pR (pb_nw h) v0 0 (some h.1)).1))).1))) rfl (fun h7 eh7 => ?_)
  have hf := pb_hbd hf eh7
  cases hf
  exact And.intro rfl rfl
def f_59_40s (N : Nat) (v0 : Nat) (s : Int32 × pb_HP) : Option ((Int32 × pb_HP) ⊕ (pb_HP)) :=
  if 729 ≤ s.1 then (some (.inr s.2)) else (if pb_is s.2 v0 3 then ((pb_R s.2 v0 2).bind fun q11 => (if pb_ar s.2 q11 12 (s.1 / 3) then (if pb_in (s.1 - s.1 / 3 * 3) pb_S2.length then (if pb_ar s.2 q11 12 s.1 then (some (.inl ((s.1 + 1, pb_pI s.2 q11 s.1.toNatClampNeg (((pb_I s.2 q11 (s.1 / 3).toNatClampNeg) >>> (1 &&& 31)) ||| (pb_S2.getD (s.1 - s.1 / 3 * 3).toNatClampNeg 0)))))) else none) else none) else none)) else none)
/-- Likings.<init> -/
def f_59 (N : Nat) (h : pb_HP) (v0 : Nat) : Option (pb_HP) :=
  if pb_SH h.1 = (12, ((729 : Int32)).toNatClampNeg) then (if pb_is (pb_nw h) v0 3 then (if pb_SH (pb_pR (pb_nw h) v0 1 (some h.1)).1 = (12, ((729 : Int32)).toNatClampNeg) then (if pb_is (pb_nw (pb_pR (pb_nw h) v0 1 (some h.1))) v0 3 then (if pb_SH (pb_pR (pb_nw (pb_pR (pb_nw h) v0 1 (some h.1))) v0 2 (some ((pb_pR (pb_nw h) v0 1 (some h.1)).1))).1 = (12, ((6 : Int32)).toNatClampNeg) then (if pb_is (pb_nw (pb_pR (pb_nw (pb_pR (pb_nw h) v0 1 (some h.1))) v0 2 (some ((pb_pR (pb_nw h) v0 1 (some h.1)).1)))) v0 3 then (pb_hb (pb_pR (pb_nw (pb_pR (pb_nw (pb_pR (pb_nw h) v0 1 (some h.1))) v0 2 (some ((pb_pR (pb_nw h) v0 1 (some h.1)).1)))) v0 3 (some ((pb_pR (pb_nw (pb_pR (pb_nw h) v0 1 (some h.1))) v0 2 (some ((pb_pR (pb_nw h) v0 1 (some h.1)).1))).1))) fun h7 => (if pb_SH h7.1 = (12, ((36 : Int32)).toNatClampNeg) then (if pb_is (pb_nw h7) v0 3 then ((pb_wl (f_59_40s N v0) N ((1, pb_pR (pb_nw h7) v0 4 (some h7.1)))).bind fun e16 => (some e16)) else none) else none)) else none) else none) else none) else none) else none) else none
set_option maxRecDepth 4000 in
theorem l_59 {xs : List Int32} {d : Nat} {N : Nat} {h : pb_HP} {v0 : Nat} {hE : pb_HP} (hf : f_59 N h v0 = some hE) : pb_AR xs (d + 1) 59 h [.ref v0] none hE := by
  intro G hG
  have hc_ : pb_CODE 59 = kc_59 := rfl
  rw [hc_] at hG
  have hl_40 : ∀ (v0 : Nat) (n_ : Nat) (s : Int32 × pb_HP) (e : pb_HP), pb_wl (f_59_40s N v0) n_ s = some e → G 77 [] [] e → G 40 [(0, .ref v0), (1, .int s.1)] [] s.2 := by
    intro v0
    refine pb_wl_ind (I := fun (s : Int32 × pb_HP) => G 40 [(0, .ref v0), (1, .int s.1)] [] s.2) (K := fun (e : pb_HP) => G 77 [] [] e) (fun s x hf hk => ?_)
    unfold f_59_40s at hf
    refine hG.1 1 40 kb_59_40 _ _ _ rfl ?_
    refine And.intro (fun (hc15 : 729 ≤ s.1) => ?_) (fun (hc15 : ¬ (729 ≤ s.1)) => ?_)
    · rw [if_pos hc15] at hf
      cases hf
      exact hG.2 77 _ [] _ _ _ rfl hk
    · rw [if_neg hc15] at hf
      obtain ⟨hg10, hf⟩ := pb_gd hf
      obtain ⟨q11, eq11, hf⟩ := Option.bind_eq_some_iff.mp hf
      obtain ⟨hg12, hf⟩ := pb_gd hf
      obtain ⟨hg13, hf⟩ := pb_gd hf
      obtain ⟨hg14, hf⟩ := pb_gd hf
      refine And.intro hg10 (Exists.intro q11 (And.intro eq11 (And.intro hg10 (Exists.intro q11 (And.intro eq11 (And.intro (by decide) (And.intro hg12 (And.intro (by decide) (And.intro hg13 (And.intro hg14 (?_)))))))))))
      cases hf
      exact hk
  unfold f_59 at hf
  refine hG.1 0 0 kb_59_0 _ _ _ rfl ?_
  obtain ⟨hg1, hf⟩ := pb_gd hf
  obtain ⟨hg2, hf⟩ := pb_gd hf
  obtain ⟨hg3, hf⟩ := pb_gd hf
  obtain ⟨hg4, hf⟩ := pb_gd hf
  obtain ⟨hg5, hf⟩ := pb_gd hf
  obtain ⟨hg6, hf⟩ := pb_gd hf
  refine And.intro (Nat.le_of_ble_eq_true rfl) (And.intro (by decide) (And.intro hg1 (And.intro hg2 (And.intro (by decide) (And.intro hg3 (And.intro hg4 (And.intro (by decide) (And.intro hg5 (And.intro hg6 (?_))))))))))
  refine pb_hset (E := pb_pR (pb_nw (pb_pR (pb_nw (pb_pR (pb_nw h) v0 1 (some h.1))) v0 2 (some ((pb_pR (pb_nw h) v0 1 (some h.1)).1)))) v0 3 (some ((pb_pR (pb_nw (pb_pR (pb_nw h) v0 1 (some h.1))) v0 2 (some ((pb_pR (pb_nw h) v0 1 (some h.1)).1))).1))) rfl (fun h7 eh7 => ?_)
  have hf := pb_hbd hf eh7
  obtain ⟨hg8, hf⟩ := pb_gd hf
  obtain ⟨hg9, hf⟩ := pb_gd hf
  refine And.intro (by decide) (And.intro hg8 (And.intro hg9 (?_)))
  obtain ⟨e16, he_e16, hf⟩ := Option.bind_eq_some_iff.mp hf
  refine hl_40 _ _ _ _ he_e16 ?_
  refine hG.1 2 77 kb_59_77 _ _ _ rfl ?_
  cases hf
  exact And.intro rfl rfl
/-- Lines.<init> -/
def f_70 (h : pb_HP) (v0 : Nat) (v1 : Int32) (v2 : Int32) : Option (pb_HP) :=
  if 0 ≤ (if 0 < v1 then v1 else 0) then (if pb_SH h.1 = (12, (if 0 < v1 then v1 else 0).toNatClampNeg) then (if pb_is (pb_nw h) v0 4 then (if 0 ≤ (if 0 < v1 then v1 else 0) then (if pb_SH (pb_pR (pb_nw h) v0 1 (some h.1)).1 = (12, (if 0 < v1 then v1 else 0).toNatClampNeg) then (if pb_is (pb_nw (pb_pR (pb_nw h) v0 1 (some h.1))) v0 4 then (if 0 ≤ (if 0 < v1 then v1 else 0) then (if pb_SH (pb_pR (pb_nw (pb_pR (pb_nw h) v0 1 (some h.1))) v0 2 (some ((pb_pR (pb_nw h) v0 1 (some h.1)).1))).1 = (12, (if 0 < v1 then v1 else 0).toNatClampNeg) then (if pb_is (pb_nw (pb_pR (pb_nw (pb_pR (pb_nw h) v0 1 (some h.1))) v0 2 (some ((pb_pR (pb_nw h) v0 1 (some h.1)).1)))) v0 4 then (pb_hb (pb_pR (pb_nw (pb_pR (pb_nw (pb_pR (pb_nw h) v0 1 (some h.1))) v0 2 (some ((pb_pR (pb_nw h) v0 1 (some h.1)).1)))) v0 3 (some ((pb_pR (pb_nw (pb_pR (pb_nw h) v0 1 (some h.1))) v0 2 (some ((pb_pR (pb_nw h) v0 1 (some h.1)).1))).1))) fun h10 => (if 0 ≤ (if 0 < v1 then v1 else 0) then (if pb_SH h10.1 = (12, (if 0 < v1 then v1 else 0).toNatClampNeg) then (if pb_is (pb_nw h10) v0 4 then (if pb_is (pb_pR (pb_nw h10) v0 4 (some h10.1)) v0 4 then (some (pb_pI (pb_pR (pb_nw h10) v0 4 (some h10.1)) v0 5 v2)) else none) else none) else none) else none)) else none) else none) else none) else none) else none) else none) else none) else none) else none
set_option maxRecDepth 4000 in
theorem l_70 {xs : List Int32} {d : Nat} {h : pb_HP} {v0 : Nat} {v1 : Int32} {v2 : Int32} {hE : pb_HP} (hf : f_70 h v0 v1 v2 = some hE) : pb_AR xs (d + 1) 70 h [.ref v0, .int v1, .int v2] none hE := by
  intro G hG
  have hc_ : pb_CODE 70 = kc_70 := rfl
  rw [hc_] at hG
  unfold f_70 at hf
  refine hG.1 0 0 kb_70_0 _ _ _ rfl ?_
  obtain ⟨hg1, hf⟩ := pb_gd hf
  obtain ⟨hg2, hf⟩ := pb_gd hf
  obtain ⟨hg3, hf⟩ := pb_gd hf
  obtain ⟨hg4, hf⟩ := pb_gd hf
  obtain ⟨hg5, hf⟩ := pb_gd hf
  obtain ⟨hg6, hf⟩ := pb_gd hf
  obtain ⟨hg7, hf⟩ := pb_gd hf
  obtain ⟨hg8, hf⟩ := pb_gd hf
  obtain ⟨hg9, hf⟩ := pb_gd hf
  refine And.intro (Nat.le_of_ble_eq_true rfl) (And.intro (Nat.le_of_ble_eq_true rfl) (And.intro hg1 (And.intro hg2 (And.intro hg3 (And.intro hg4 (And.intro hg5 (And.intro hg6 (And.intro hg7 (And.intro hg8 (And.intro hg9 (?_)))))))))))
  refine pb_hset (E := pb_pR (pb_nw (pb_pR (pb_nw (pb_pR (pb_nw h) v0 1 (some h.1))) v0 2 (some ((pb_pR (pb_nw h) v0 1 (some h.1)).1)))) v0 3 (some ((pb_pR (pb_nw (pb_pR (pb_nw h) v0 1 (some h.1))) v0 2 (some ((pb_pR (pb_nw h) v0 1 (some h.1)).1))).1))) rfl (fun h10 eh10 => ?_)
  have hf := pb_hbd hf eh10
  obtain ⟨hg11, hf⟩ := pb_gd hf
  obtain ⟨hg12, hf⟩ := pb_gd hf
  obtain ⟨hg13, hf⟩ := pb_gd hf
  obtain ⟨hg14, hf⟩ := pb_gd hf
  refine And.intro hg11 (And.intro hg12 (And.intro hg13 (And.intro hg14 (?_))))
  cases hf
  exact And.intro rfl rfl
/-- Poll.<init> -/
def f_75 (h : pb_HP) (v0 : Nat) : Option (pb_HP) :=
  if pb_SH h.1 = (12, ((6 : Int32)).toNatClampNeg) then (if pb_is (pb_nw h) v0 5 then (some (pb_pR (pb_nw h) v0 2 (some h.1))) else none) else none
set_option maxRecDepth 4000 in
theorem l_75 {xs : List Int32} {d : Nat} {h : pb_HP} {v0 : Nat} {hE : pb_HP} (hf : f_75 h v0 = some hE) : pb_AR xs (d + 1) 75 h [.ref v0] none hE := by
  intro G hG
  have hc_ : pb_CODE 75 = kc_75 := rfl
  rw [hc_] at hG
  unfold f_75 at hf
  refine hG.1 0 0 kb_75_0 _ _ _ rfl ?_
  obtain ⟨hg1, hf⟩ := pb_gd hf
  obtain ⟨hg2, hf⟩ := pb_gd hf
  refine And.intro (Nat.le_of_ble_eq_true rfl) (And.intro (by decide) (And.intro hg1 (And.intro hg2 (?_))))
  cases hf
  exact And.intro rfl rfl
/-- Wings.<init> -/
def f_119 (h : pb_HP) (v0 : Nat) : Option (pb_HP) :=
  if pb_SH h.1 = (12, ((6 : Int32)).toNatClampNeg) then (if pb_is (pb_nw h) v0 9 then (some (pb_pR (pb_nw h) v0 0 (some h.1))) else none) else none
set_option maxRecDepth 4000 in
theorem l_119 {xs : List Int32} {d : Nat} {h : pb_HP} {v0 : Nat} {hE : pb_HP} (hf : f_119 h v0 = some hE) : pb_AR xs (d + 1) 119 h [.ref v0] none hE := by
  intro G hG
  have hc_ : pb_CODE 119 = kc_119 := rfl
  rw [hc_] at hG
  unfold f_119 at hf
  refine hG.1 0 0 kb_119_0 _ _ _ rfl ?_
  obtain ⟨hg1, hf⟩ := pb_gd hf
  obtain ⟨hg2, hf⟩ := pb_gd hf
  refine And.intro (Nat.le_of_ble_eq_true rfl) (And.intro (by decide) (And.intro hg1 (And.intro hg2 (?_))))
  cases hf
  exact And.intro rfl rfl
/-- PointedBenchModel.<init> -/
def f_167 (h : pb_HP) (v0 : Nat) : Option (pb_HP) :=
  if pb_SH h.1 = (13, ((2400 : Int32)).toNatClampNeg) then (if pb_is (pb_nw h) v0 11 then (if pb_SH (pb_pR (pb_nw h) v0 1 (some h.1)).1 = (12, ((4 : Int32)).toNatClampNeg) then (if pb_is (pb_nw (pb_pR (pb_nw h) v0 1 (some h.1))) v0 11 then (if pb_SH (pb_pR (pb_nw (pb_pR (pb_nw h) v0 1 (some h.1))) v0 2 (some ((pb_pR (pb_nw h) v0 1 (some h.1)).1))).1 = (12, ((4 : Int32)).toNatClampNeg) then (if pb_is (pb_nw (pb_pR (pb_nw (pb_pR (pb_nw h) v0 1 (some h.1))) v0 2 (some ((pb_pR (pb_nw h) v0 1 (some h.1)).1)))) v0 11 then (pb_hb (pb_pR (pb_nw (pb_pR (pb_nw (pb_pR (pb_nw h) v0 1 (some h.1))) v0 2 (some ((pb_pR (pb_nw h) v0 1 (some h.1)).1)))) v0 3 (some ((pb_pR (pb_nw (pb_pR (pb_nw h) v0 1 (some h.1))) v0 2 (some ((pb_pR (pb_nw h) v0 1 (some h.1)).1))).1))) fun h7 => (if pb_SH h7.1 = (12, ((4 : Int32)).toNatClampNeg) then (if pb_is (pb_nw h7) v0 11 then (if pb_SH (pb_pR (pb_nw h7) v0 4 (some h7.1)).1 = (12, ((12 : Int32)).toNatClampNeg) then (if pb_is (pb_nw (pb_pR (pb_nw h7) v0 4 (some h7.1))) v0 11 then (if pb_SH (pb_pR (pb_nw (pb_pR (pb_nw h7) v0 4 (some h7.1))) v0 5 (some ((pb_pR (pb_nw h7) v0 4 (some h7.1)).1))).1 = (12, ((544 : Int32)).toNatClampNeg) then (if pb_is (pb_nw (pb_pR (pb_nw (pb_pR (pb_nw h7) v0 4 (some h7.1))) v0 5 (some ((pb_pR (pb_nw h7) v0 4 (some h7.1)).1)))) v0 11 then (pb_hb (pb_pR (pb_nw (pb_pR (pb_nw (pb_pR (pb_nw h7) v0 4 (some h7.1))) v0 5 (some ((pb_pR (pb_nw h7) v0 4 (some h7.1)).1)))) v0 6 (some ((pb_pR (pb_nw (pb_pR (pb_nw h7) v0 4 (some h7.1))) v0 5 (some ((pb_pR (pb_nw h7) v0 4 (some h7.1)).1))).1))) fun h14 => (if pb_SH h14.1 = (12, ((1288 : Int32)).toNatClampNeg) then (if pb_is (pb_nw h14) v0 11 then (if pb_SH (pb_pR (pb_nw h14) v0 7 (some h14.1)).1 = (12, ((200 : Int32)).toNatClampNeg) then (if pb_is (pb_nw (pb_pR (pb_nw h14) v0 7 (some h14.1))) v0 11 then (if pb_SH (pb_pR (pb_nw (pb_pR (pb_nw h14) v0 7 (some h14.1))) v0 8 (some ((pb_pR (pb_nw h14) v0 7 (some h14.1)).1))).1 = (12, ((161 : Int32)).toNatClampNeg) then (if pb_is (pb_nw (pb_pR (pb_nw (pb_pR (pb_nw h14) v0 7 (some h14.1))) v0 8 (some ((pb_pR (pb_nw h14) v0 7 (some h14.1)).1)))) v0 11 then (pb_hb (pb_pR (pb_nw (pb_pR (pb_nw (pb_pR (pb_nw h14) v0 7 (some h14.1))) v0 8 (some ((pb_pR (pb_nw h14) v0 7 (some h14.1)).1)))) v0 18 (some ((pb_pR (pb_nw (pb_pR (pb_nw h14) v0 7 (some h14.1))) v0 8 (some ((pb_pR (pb_nw h14) v0 7 (some h14.1)).1))).1))) fun h21 => (if pb_SH h21.1 = (12, ((4 : Int32)).toNatClampNeg) then (if pb_is (pb_nw h21) v0 11 then (if pb_SH (pb_pR (pb_nw h21) v0 19 (some h21.1)).1 = (12, ((6 : Int32)).toNatClampNeg) then (if pb_is (pb_nw (pb_pR (pb_nw h21) v0 19 (some h21.1))) v0 11 then (if pb_SH (pb_pR (pb_nw (pb_pR (pb_nw h21) v0 19 (some h21.1))) v0 30 (some ((pb_pR (pb_nw h21) v0 19 (some h21.1)).1))).1 = (12, ((6 : Int32)).toNatClampNeg) then (if pb_is (pb_nw (pb_pR (pb_nw (pb_pR (pb_nw h21) v0 19 (some h21.1))) v0 30 (some ((pb_pR (pb_nw h21) v0 19 (some h21.1)).1)))) v0 11 then (pb_hb (pb_pR (pb_nw (pb_pR (pb_nw (pb_pR (pb_nw h21) v0 19 (some h21.1))) v0 30 (some ((pb_pR (pb_nw h21) v0 19 (some h21.1)).1)))) v0 31 (some ((pb_pR (pb_nw (pb_pR (pb_nw h21) v0 19 (some h21.1))) v0 30 (some ((pb_pR (pb_nw h21) v0 19 (some h21.1)).1))).1))) fun h28 => (if pb_SH h28.1 = (12, ((6 : Int32)).toNatClampNeg) then (if pb_is (pb_nw h28) v0 11 then (if pb_SH (pb_pR (pb_nw h28) v0 32 (some h28.1)).1 = (12, ((6 : Int32)).toNatClampNeg) then (if pb_is (pb_nw (pb_pR (pb_nw h28) v0 32 (some h28.1))) v0 11 then (if pb_SH (pb_pR (pb_nw (pb_pR (pb_nw h28) v0 32 (some h28.1))) v0 33 (some ((pb_pR (pb_nw h28) v0 32 (some h28.1)).1))).1 = (12, ((36 : Int32)).toNatClampNeg) then (if pb_is (pb_nw (pb_pR (pb_nw (pb_pR (pb_nw h28) v0 32 (some h28.1))) v0 33 (some ((pb_pR (pb_nw h28) v0 32 (some h28.1)).1)))) v0 11 then (pb_hb (pb_pR (pb_nw (pb_pR (pb_nw (pb_pR (pb_nw h28) v0 32 (some h28.1))) v0 33 (some ((pb_pR (pb_nw h28) v0 32 (some h28.1)).1)))) v0 34 (some ((pb_pR (pb_nw (pb_pR (pb_nw h28) v0 32 (some h28.1))) v0 33 (some ((pb_pR (pb_nw h28) v0 32 (some h28.1)).1))).1))) fun h35 => (if pb_SH h35.1 = (12, ((6 : Int32)).toNatClampNeg) then (if pb_is (pb_nw h35) v0 11 then (if pb_SH (pb_pR (pb_nw h35) v0 35 (some h35.1)).1 = (12, ((2401 : Int32)).toNatClampNeg) then (if pb_is (pb_nw (pb_pR (pb_nw h35) v0 35 (some h35.1))) v0 11 then (if pb_SH (pb_pR (pb_nw (pb_pR (pb_nw h35) v0 35 (some h35.1))) v0 37 (some ((pb_pR (pb_nw h35) v0 35 (some h35.1)).1))).1 = (12, ((729 : Int32)).toNatClampNeg) then (if pb_is (pb_nw (pb_pR (pb_nw (pb_pR (pb_nw h35) v0 35 (some h35.1))) v0 37 (some ((pb_pR (pb_nw h35) v0 35 (some h35.1)).1)))) v0 11 then (pb_hb (pb_pR (pb_nw (pb_pR (pb_nw (pb_pR (pb_nw h35) v0 35 (some h35.1))) v0 37 (some ((pb_pR (pb_nw h35) v0 35 (some h35.1)).1)))) v0 40 (some ((pb_pR (pb_nw (pb_pR (pb_nw h35) v0 35 (some h35.1))) v0 37 (some ((pb_pR (pb_nw h35) v0 35 (some h35.1)).1))).1))) fun h42 => (if pb_SH h42.1 = (12, ((6 : Int32)).toNatClampNeg) then (if pb_is (pb_nw h42) v0 11 then (if pb_SH (pb_pR (pb_nw h42) v0 43 (some h42.1)).1 = (12, ((6 : Int32)).toNatClampNeg) then (if pb_is (pb_nw (pb_pR (pb_nw h42) v0 43 (some h42.1))) v0 11 then (if pb_SH (pb_pR (pb_nw (pb_pR (pb_nw h42) v0 43 (some h42.1))) v0 44 (some ((pb_pR (pb_nw h42) v0 43 (some h42.1)).1))).1 = (12, ((6 : Int32)).toNatClampNeg) then (if pb_is (pb_nw (pb_pR (pb_nw (pb_pR (pb_nw h42) v0 43 (some h42.1))) v0 44 (some ((pb_pR (pb_nw h42) v0 43 (some h42.1)).1)))) v0 11 then (pb_hb (pb_pR (pb_nw (pb_pR (pb_nw (pb_pR (pb_nw h42) v0 43 (some h42.1))) v0 44 (some ((pb_pR (pb_nw h42) v0 43 (some h42.1)).1)))) v0 45 (some ((pb_pR (pb_nw (pb_pR (pb_nw h42) v0 43 (some h42.1))) v0 44 (some ((pb_pR (pb_nw h42) v0 43 (some h42.1)).1))).1))) fun h49 => (if pb_SH h49.1 = (12, ((6 : Int32)).toNatClampNeg) then (if pb_is (pb_nw h49) v0 11 then (if pb_SH (pb_pR (pb_nw h49) v0 46 (some h49.1)).1 = (14, ((3 : Int32)).toNatClampNeg) then (if pb_is (pb_nw (pb_pR (pb_nw h49) v0 46 (some h49.1))) v0 11 then (if pb_is (pb_pR (pb_nw (pb_pR (pb_nw h49) v0 46 (some h49.1))) v0 51 (some ((pb_pR (pb_nw h49) v0 46 (some h49.1)).1))) v0 11 then ((pb_R (pb_pR (pb_nw (pb_pR (pb_nw h49) v0 46 (some h49.1))) v0 51 (some ((pb_pR (pb_nw h49) v0 46 (some h49.1)).1))) v0 4).bind fun q55 => (if pb_ar (pb_pR (pb_nw (pb_pR (pb_nw h49) v0 46 (some h49.1))) v0 51 (some ((pb_pR (pb_nw h49) v0 46 (some h49.1)).1))) q55 12 0 then (some (pb_pI (pb_pR (pb_nw (pb_pR (pb_nw h49) v0 46 (some h49.1))) v0 51 (some ((pb_pR (pb_nw h49) v0 46 (some h49.1)).1))) q55 (0 : Int32).toNatClampNeg ((-1)))) else none)) else none) else none) else none) else none) else none)) else none) else none) else none) else none) else none) else none)) else none) else none) else none) else none) else none) else none)) else none) else none) else none) else none) else none) else none)) else none) else none) else none) else none) else none) else none)) else none) else none) else none) else none) else none) else none)) else none) else none) else none) else none) else none) else none)) else none) else none) else none) else none) else none) else none
set_option maxRecDepth 4000 in
theorem l_167 {xs : List Int32} {d : Nat} {h : pb_HP} {v0 : Nat} {hE : pb_HP} (hf : f_167 h v0 = some hE) : pb_AR xs (d + 1) 167 h [.ref v0] none hE := by
  intro G hG
  have hc_ : pb_CODE 167 = kc_167 := rfl
  rw [hc_] at hG
  unfold f_167 at hf
  refine hG.1 0 0 kb_167_0 _ _ _ rfl ?_
  obtain ⟨hg1, hf⟩ := pb_gd hf
  obtain ⟨hg2, hf⟩ := pb_gd hf
  obtain ⟨hg3, hf⟩ := pb_gd hf
  obtain ⟨hg4, hf⟩ := pb_gd hf
  obtain ⟨hg5, hf⟩ := pb_gd hf
  obtain ⟨hg6, hf⟩ := pb_gd hf
  refine And.intro (Nat.le_of_ble_eq_true rfl) (And.intro (by decide) (And.intro hg1 (And.intro hg2 (And.intro (by decide) (And.intro hg3 (And.intro hg4 (And.intro (by decide) (And.intro hg5 (And.intro hg6 (?_))))))))))
  refine pb_hset (E := pb_pR (pb_nw (pb_pR (pb_nw (pb_pR (pb_nw h) v0 1 (some h.1))) v0 2 (some ((pb_pR (pb_nw h) v0 1 (some h.1)).1)))) v0 3 (some ((pb_pR (pb_nw (pb_pR (pb_nw h) v0 1 (some h.1))) v0 2 (some ((pb_pR (pb_nw h) v0 1 (some h.1)).1))).1))) rfl (fun h7 eh7 => ?_)
  have hf := pb_hbd hf eh7
  obtain ⟨hg8, hf⟩ := pb_gd hf
  obtain ⟨hg9, hf⟩ := pb_gd hf
  obtain ⟨hg10, hf⟩ := pb_gd hf
  obtain ⟨hg11, hf⟩ := pb_gd hf
  obtain ⟨hg12, hf⟩ := pb_gd hf
  obtain ⟨hg13, hf⟩ := pb_gd hf
  refine And.intro (by decide) (And.intro hg8 (And.intro hg9 (And.intro (by decide) (And.intro hg10 (And.intro hg11 (And.intro (by decide) (And.intro hg12 (And.intro hg13 (?_)))))))))
  refine pb_hset (E := pb_pR (pb_nw (pb_pR (pb_nw (pb_pR (pb_nw h7) v0 4 (some h7.1))) v0 5 (some ((pb_pR (pb_nw h7) v0 4 (some h7.1)).1)))) v0 6 (some ((pb_pR (pb_nw (pb_pR (pb_nw h7) v0 4 (some h7.1))) v0 5 (some ((pb_pR (pb_nw h7) v0 4 (some h7.1)).1))).1))) rfl (fun h14 eh14 => ?_)
  have hf := pb_hbd hf eh14
  obtain ⟨hg15, hf⟩ := pb_gd hf
  obtain ⟨hg16, hf⟩ := pb_gd hf
  obtain ⟨hg17, hf⟩ := pb_gd hf
  obtain ⟨hg18, hf⟩ := pb_gd hf
  obtain ⟨hg19, hf⟩ := pb_gd hf
  obtain ⟨hg20, hf⟩ := pb_gd hf
  refine And.intro (by decide) (And.intro hg15 (And.intro hg16 (And.intro (by decide) (And.intro hg17 (And.intro hg18 (And.intro (by decide) (And.intro hg19 (And.intro hg20 (?_)))))))))
  refine pb_hset (E := pb_pR (pb_nw (pb_pR (pb_nw (pb_pR (pb_nw h14) v0 7 (some h14.1))) v0 8 (some ((pb_pR (pb_nw h14) v0 7 (some h14.1)).1)))) v0 18 (some ((pb_pR (pb_nw (pb_pR (pb_nw h14) v0 7 (some h14.1))) v0 8 (some ((pb_pR (pb_nw h14) v0 7 (some h14.1)).1))).1))) rfl (fun h21 eh21 => ?_)
  have hf := pb_hbd hf eh21
  obtain ⟨hg22, hf⟩ := pb_gd hf
  obtain ⟨hg23, hf⟩ := pb_gd hf
  obtain ⟨hg24, hf⟩ := pb_gd hf
  obtain ⟨hg25, hf⟩ := pb_gd hf
  obtain ⟨hg26, hf⟩ := pb_gd hf
  obtain ⟨hg27, hf⟩ := pb_gd hf
  refine And.intro (by decide) (And.intro hg22 (And.intro hg23 (And.intro (by decide) (And.intro hg24 (And.intro hg25 (And.intro (by decide) (And.intro hg26 (And.intro hg27 (?_)))))))))
  refine pb_hset (E := pb_pR (pb_nw (pb_pR (pb_nw (pb_pR (pb_nw h21) v0 19 (some h21.1))) v0 30 (some ((pb_pR (pb_nw h21) v0 19 (some h21.1)).1)))) v0 31 (some ((pb_pR (pb_nw (pb_pR (pb_nw h21) v0 19 (some h21.1))) v0 30 (some ((pb_pR (pb_nw h21) v0 19 (some h21.1)).1))).1))) rfl (fun h28 eh28 => ?_)
  have hf := pb_hbd hf eh28
  obtain ⟨hg29, hf⟩ := pb_gd hf
  obtain ⟨hg30, hf⟩ := pb_gd hf
  obtain ⟨hg31, hf⟩ := pb_gd hf
  obtain ⟨hg32, hf⟩ := pb_gd hf
  obtain ⟨hg33, hf⟩ := pb_gd hf
  obtain ⟨hg34, hf⟩ := pb_gd hf
  refine And.intro (by decide) (And.intro hg29 (And.intro hg30 (And.intro (by decide) (And.intro hg31 (And.intro hg32 (And.intro (by decide) (And.intro hg33 (And.intro hg34 (?_)))))))))
  refine pb_hset (E := pb_pR (pb_nw (pb_pR (pb_nw (pb_pR (pb_nw h28) v0 32 (some h28.1))) v0 33 (some ((pb_pR (pb_nw h28) v0 32 (some h28.1)).1)))) v0 34 (some ((pb_pR (pb_nw (pb_pR (pb_nw h28) v0 32 (some h28.1))) v0 33 (some ((pb_pR (pb_nw h28) v0 32 (some h28.1)).1))).1))) rfl (fun h35 eh35 => ?_)
  have hf := pb_hbd hf eh35
  obtain ⟨hg36, hf⟩ := pb_gd hf
  obtain ⟨hg37, hf⟩ := pb_gd hf
  obtain ⟨hg38, hf⟩ := pb_gd hf
  obtain ⟨hg39, hf⟩ := pb_gd hf
  obtain ⟨hg40, hf⟩ := pb_gd hf
  obtain ⟨hg41, hf⟩ := pb_gd hf
  refine And.intro (by decide) (And.intro hg36 (And.intro hg37 (And.intro (by decide) (And.intro hg38 (And.intro hg39 (And.intro (by decide) (And.intro hg40 (And.intro hg41 (?_)))))))))
  refine pb_hset (E := pb_pR (pb_nw (pb_pR (pb_nw (pb_pR (pb_nw h35) v0 35 (some h35.1))) v0 37 (some ((pb_pR (pb_nw h35) v0 35 (some h35.1)).1)))) v0 40 (some ((pb_pR (pb_nw (pb_pR (pb_nw h35) v0 35 (some h35.1))) v0 37 (some ((pb_pR (pb_nw h35) v0 35 (some h35.1)).1))).1))) rfl (fun h42 eh42 => ?_)
  have hf := pb_hbd hf eh42
  obtain ⟨hg43, hf⟩ := pb_gd hf
  obtain ⟨hg44, hf⟩ := pb_gd hf
  obtain ⟨hg45, hf⟩ := pb_gd hf
  obtain ⟨hg46, hf⟩ := pb_gd hf
  obtain ⟨hg47, hf⟩ := pb_gd hf
  obtain ⟨hg48, hf⟩ := pb_gd hf
  refine And.intro (by decide) (And.intro hg43 (And.intro hg44 (And.intro (by decide) (And.intro hg45 (And.intro hg46 (And.intro (by decide) (And.intro hg47 (And.intro hg48 (?_)))))))))
  refine pb_hset (E := pb_pR (pb_nw (pb_pR (pb_nw (pb_pR (pb_nw h42) v0 43 (some h42.1))) v0 44 (some ((pb_pR (pb_nw h42) v0 43 (some h42.1)).1)))) v0 45 (some ((pb_pR (pb_nw (pb_pR (pb_nw h42) v0 43 (some h42.1))) v0 44 (some ((pb_pR (pb_nw h42) v0 43 (some h42.1)).1))).1))) rfl (fun h49 eh49 => ?_)
  have hf := pb_hbd hf eh49
  obtain ⟨hg50, hf⟩ := pb_gd hf
  obtain ⟨hg51, hf⟩ := pb_gd hf
  obtain ⟨hg52, hf⟩ := pb_gd hf
  obtain ⟨hg53, hf⟩ := pb_gd hf
  obtain ⟨hg54, hf⟩ := pb_gd hf
  obtain ⟨q55, eq55, hf⟩ := Option.bind_eq_some_iff.mp hf
  obtain ⟨hg56, hf⟩ := pb_gd hf
  refine And.intro (by decide) (And.intro hg50 (And.intro hg51 (And.intro (by decide) (And.intro hg52 (And.intro hg53 (And.intro hg54 (Exists.intro q55 (And.intro eq55 (And.intro hg56 (?_))))))))))
  cases hf
  exact And.intro rfl rfl
/-- Course.<init> -/
def f_27 (h : pb_HP) (v0 : Nat) : Option (pb_HP) :=
  if pb_SH h.1 = (0, 0) then ((f_0 (pb_nw h) h.1).bind fun h3 => (if pb_is h3 v0 1 then (if pb_SH (pb_pR h3 v0 0 (some h.1)).1 = (5, 0) then ((f_75 (pb_nw (pb_pR h3 v0 0 (some h.1))) ((pb_pR h3 v0 0 (some h.1)).1)).bind fun h7 => (if pb_is h7 v0 1 then (if pb_SH (pb_pR h7 v0 1 (some ((pb_pR h3 v0 0 (some h.1)).1))).1 = (12, ((6 : Int32)).toNatClampNeg) then (if pb_is (pb_nw (pb_pR h7 v0 1 (some ((pb_pR h3 v0 0 (some h.1)).1)))) v0 1 then (if pb_SH (pb_pR (pb_nw (pb_pR h7 v0 1 (some ((pb_pR h3 v0 0 (some h.1)).1)))) v0 2 (some ((pb_pR h7 v0 1 (some ((pb_pR h3 v0 0 (some h.1)).1))).1))).1 = (12, ((6 : Int32)).toNatClampNeg) then (if pb_is (pb_nw (pb_pR (pb_nw (pb_pR h7 v0 1 (some ((pb_pR h3 v0 0 (some h.1)).1)))) v0 2 (some ((pb_pR h7 v0 1 (some ((pb_pR h3 v0 0 (some h.1)).1))).1)))) v0 1 then (pb_hb (pb_pR (pb_nw (pb_pR (pb_nw (pb_pR h7 v0 1 (some ((pb_pR h3 v0 0 (some h.1)).1)))) v0 2 (some ((pb_pR h7 v0 1 (some ((pb_pR h3 v0 0 (some h.1)).1))).1)))) v0 3 (some ((pb_pR (pb_nw (pb_pR h7 v0 1 (some ((pb_pR h3 v0 0 (some h.1)).1)))) v0 2 (some ((pb_pR h7 v0 1 (some ((pb_pR h3 v0 0 (some h.1)).1))).1))).1))) fun h13 => (some h13)) else none) else none) else none) else none) else none)) else none) else none)) else none
set_option maxRecDepth 4000 in
theorem l_27 {xs : List Int32} {d : Nat} {h : pb_HP} {v0 : Nat} {hE : pb_HP} (hf : f_27 h v0 = some hE) : pb_AR xs (d + 2) 27 h [.ref v0] none hE := by
  intro G hG
  have hc_ : pb_CODE 27 = kc_27 := rfl
  rw [hc_] at hG
  unfold f_27 at hf
  refine hG.1 0 0 kb_27_0 _ _ _ rfl ?_
  obtain ⟨hg1, hf⟩ := pb_gd hf
  refine And.intro (Nat.le_of_ble_eq_true rfl) (And.intro hg1 (?_))
  obtain ⟨h3, cr2, hf⟩ := Option.bind_eq_some_iff.mp hf
  refine And.intro (Nat.le_of_ble_eq_true rfl) (And.intro (Nat.le_of_ble_eq_true rfl) (Exists.intro none (Exists.intro _ (And.intro (l_0 cr2) (?_)))))
  obtain ⟨hg4, hf⟩ := pb_gd hf
  obtain ⟨hg5, hf⟩ := pb_gd hf
  refine And.intro hg4 (And.intro hg5 (?_))
  obtain ⟨h7, cr6, hf⟩ := Option.bind_eq_some_iff.mp hf
  refine And.intro (Nat.le_of_ble_eq_true rfl) (And.intro (Nat.le_of_ble_eq_true rfl) (Exists.intro none (Exists.intro _ (And.intro (l_75 cr6) (?_)))))
  obtain ⟨hg8, hf⟩ := pb_gd hf
  obtain ⟨hg9, hf⟩ := pb_gd hf
  obtain ⟨hg10, hf⟩ := pb_gd hf
  obtain ⟨hg11, hf⟩ := pb_gd hf
  obtain ⟨hg12, hf⟩ := pb_gd hf
  refine And.intro hg8 (And.intro (by decide) (And.intro hg9 (And.intro hg10 (And.intro (by decide) (And.intro hg11 (And.intro hg12 (?_)))))))
  refine pb_hset (E := pb_pR (pb_nw (pb_pR (pb_nw (pb_pR h7 v0 1 (some ((pb_pR h3 v0 0 (some h.1)).1)))) v0 2 (some ((pb_pR h7 v0 1 (some ((pb_pR h3 v0 0 (some h.1)).1))).1)))) v0 3 (some ((pb_pR (pb_nw (pb_pR h7 v0 1 (some ((pb_pR h3 v0 0 (some h.1)).1)))) v0 2 (some ((pb_pR h7 v0 1 (some ((pb_pR h3 v0 0 (some h.1)).1))).1))).1))) rfl (fun h13 eh13 => ?_)
  have hf := pb_hbd hf eh13
  cases hf
  exact And.intro rfl rfl
/-- Reader.<init> -/
def f_84 (h : pb_HP) (v0 : Nat) : Option (pb_HP) :=
  if pb_SH h.1 = (0, 0) then ((f_0 (pb_nw h) h.1).bind fun h3 => (if pb_is h3 v0 6 then (if pb_SH (pb_pR h3 v0 0 (some h.1)).1 = (4, 0) then ((f_70 (pb_nw (pb_pR h3 v0 0 (some h.1))) ((pb_pR h3 v0 0 (some h.1)).1) 40 3).bind fun h7 => (if pb_is h7 v0 6 then (if pb_SH (pb_pR h7 v0 1 (some ((pb_pR h3 v0 0 (some h.1)).1))).1 = (4, 0) then ((f_70 (pb_nw (pb_pR h7 v0 1 (some ((pb_pR h3 v0 0 (some h.1)).1)))) ((pb_pR h7 v0 1 (some ((pb_pR h3 v0 0 (some h.1)).1))).1) 8 2).bind fun h11 => (if pb_is h11 v0 6 then (if pb_SH (pb_pR h11 v0 2 (some ((pb_pR h7 v0 1 (some ((pb_pR h3 v0 0 (some h.1)).1))).1))).1 = (12, ((3 : Int32)).toNatClampNeg) then (if pb_is (pb_nw (pb_pR h11 v0 2 (some ((pb_pR h7 v0 1 (some ((pb_pR h3 v0 0 (some h.1)).1))).1)))) v0 6 then (pb_hb (pb_pR (pb_nw (pb_pR h11 v0 2 (some ((pb_pR h7 v0 1 (some ((pb_pR h3 v0 0 (some h.1)).1))).1)))) v0 12 (some ((pb_pR h11 v0 2 (some ((pb_pR h7 v0 1 (some ((pb_pR h3 v0 0 (some h.1)).1))).1))).1))) fun h15 => (some h15)) else none) else none) else none)) else none) else none)) else none) else none)) else none
set_option maxRecDepth 4000 in
theorem l_84 {xs : List Int32} {d : Nat} {h : pb_HP} {v0 : Nat} {hE : pb_HP} (hf : f_84 h v0 = some hE) : pb_AR xs (d + 2) 84 h [.ref v0] none hE := by
  intro G hG
  have hc_ : pb_CODE 84 = kc_84 := rfl
  rw [hc_] at hG
  unfold f_84 at hf
  refine hG.1 0 0 kb_84_0 _ _ _ rfl ?_
  obtain ⟨hg1, hf⟩ := pb_gd hf
  refine And.intro (Nat.le_of_ble_eq_true rfl) (And.intro hg1 (?_))
  obtain ⟨h3, cr2, hf⟩ := Option.bind_eq_some_iff.mp hf
  refine And.intro (Nat.le_of_ble_eq_true rfl) (And.intro (Nat.le_of_ble_eq_true rfl) (Exists.intro none (Exists.intro _ (And.intro (l_0 cr2) (?_)))))
  obtain ⟨hg4, hf⟩ := pb_gd hf
  obtain ⟨hg5, hf⟩ := pb_gd hf
  refine And.intro hg4 (And.intro hg5 (?_))
  obtain ⟨h7, cr6, hf⟩ := Option.bind_eq_some_iff.mp hf
  refine And.intro (Nat.le_of_ble_eq_true rfl) (And.intro (Nat.le_of_ble_eq_true rfl) (Exists.intro none (Exists.intro _ (And.intro (l_70 cr6) (?_)))))
  obtain ⟨hg8, hf⟩ := pb_gd hf
  obtain ⟨hg9, hf⟩ := pb_gd hf
  refine And.intro hg8 (And.intro hg9 (?_))
  obtain ⟨h11, cr10, hf⟩ := Option.bind_eq_some_iff.mp hf
  refine And.intro (Nat.le_of_ble_eq_true rfl) (And.intro (Nat.le_of_ble_eq_true rfl) (Exists.intro none (Exists.intro _ (And.intro (l_70 cr10) (?_)))))
  obtain ⟨hg12, hf⟩ := pb_gd hf
  obtain ⟨hg13, hf⟩ := pb_gd hf
  obtain ⟨hg14, hf⟩ := pb_gd hf
  refine And.intro hg12 (And.intro (by decide) (And.intro hg13 (And.intro hg14 (?_))))
  refine pb_hset (E := pb_pR (pb_nw (pb_pR h11 v0 2 (some ((pb_pR h7 v0 1 (some ((pb_pR h3 v0 0 (some h.1)).1))).1)))) v0 12 (some ((pb_pR h11 v0 2 (some ((pb_pR h7 v0 1 (some ((pb_pR h3 v0 0 (some h.1)).1))).1))).1))) rfl (fun h15 eh15 => ?_)
  have hf := pb_hbd hf eh15
  cases hf
  exact And.intro rfl rfl
/-- Told.<init> -/
def f_99 (h : pb_HP) (v0 : Nat) : Option (pb_HP) :=
  if pb_SH h.1 = (15, ((2 : Int32)).toNatClampNeg) then (if pb_SH (pb_nw h).1 = (0, 0) then ((f_0 (pb_nw (pb_nw h)) ((pb_nw h).1)).bind fun h4 => (if pb_ar h4 h.1 15 0 then (if pb_is h4 ((pb_nw h).1) 0 then (if pb_SH (pb_pR h4 h.1 (0 : Int32).toNatClampNeg (some ((pb_nw h).1))).1 = (0, 0) then ((f_0 (pb_nw (pb_pR h4 h.1 (0 : Int32).toNatClampNeg (some ((pb_nw h).1)))) ((pb_pR h4 h.1 (0 : Int32).toNatClampNeg (some ((pb_nw h).1))).1)).bind fun h9 => (if pb_ar h9 h.1 15 1 then (if pb_is h9 ((pb_pR h4 h.1 (0 : Int32).toNatClampNeg (some ((pb_nw h).1))).1) 0 then (if pb_is (pb_pR h9 h.1 (1 : Int32).toNatClampNeg (some ((pb_pR h4 h.1 (0 : Int32).toNatClampNeg (some ((pb_nw h).1))).1))) v0 7 then (if pb_SH (pb_pR (pb_pR h9 h.1 (1 : Int32).toNatClampNeg (some ((pb_pR h4 h.1 (0 : Int32).toNatClampNeg (some ((pb_nw h).1))).1))) v0 0 (some h.1)).1 = (16, ((2 : Int32)).toNatClampNeg) then (if pb_SH (pb_nw (pb_pR (pb_pR h9 h.1 (1 : Int32).toNatClampNeg (some ((pb_pR h4 h.1 (0 : Int32).toNatClampNeg (some ((pb_nw h).1))).1))) v0 0 (some h.1))).1 = (4, 0) then ((f_70 (pb_nw (pb_nw (pb_pR (pb_pR h9 h.1 (1 : Int32).toNatClampNeg (some ((pb_pR h4 h.1 (0 : Int32).toNatClampNeg (some ((pb_nw h).1))).1))) v0 0 (some h.1)))) ((pb_nw (pb_pR (pb_pR h9 h.1 (1 : Int32).toNatClampNeg (some ((pb_pR h4 h.1 (0 : Int32).toNatClampNeg (some ((pb_nw h).1))).1))) v0 0 (some h.1))).1) 40 3).bind fun h16 => (if pb_ar h16 ((pb_pR (pb_pR h9 h.1 (1 : Int32).toNatClampNeg (some ((pb_pR h4 h.1 (0 : Int32).toNatClampNeg (some ((pb_nw h).1))).1))) v0 0 (some h.1)).1) 16 0 then (if pb_is h16 ((pb_nw (pb_pR (pb_pR h9 h.1 (1 : Int32).toNatClampNeg (some ((pb_pR h4 h.1 (0 : Int32).toNatClampNeg (some ((pb_nw h).1))).1))) v0 0 (some h.1))).1) 4 then (pb_hb (pb_pR h16 ((pb_pR (pb_pR h9 h.1 (1 : Int32).toNatClampNeg (some ((pb_pR h4 h.1 (0 : Int32).toNatClampNeg (some ((pb_nw h).1))).1))) v0 0 (some h.1)).1) (0 : Int32).toNatClampNeg (some ((pb_nw (pb_pR (pb_pR h9 h.1 (1 : Int32).toNatClampNeg (some ((pb_pR h4 h.1 (0 : Int32).toNatClampNeg (some ((pb_nw h).1))).1))) v0 0 (some h.1))).1))) fun h19 => (if pb_SH h19.1 = (4, 0) then ((f_70 (pb_nw h19) h19.1 40 3).bind fun h22 => (if pb_ar h22 ((pb_pR (pb_pR h9 h.1 (1 : Int32).toNatClampNeg (some ((pb_pR h4 h.1 (0 : Int32).toNatClampNeg (some ((pb_nw h).1))).1))) v0 0 (some h.1)).1) 16 1 then (if pb_is h22 h19.1 4 then (pb_hb (pb_pR h22 ((pb_pR (pb_pR h9 h.1 (1 : Int32).toNatClampNeg (some ((pb_pR h4 h.1 (0 : Int32).toNatClampNeg (some ((pb_nw h).1))).1))) v0 0 (some h.1)).1) (1 : Int32).toNatClampNeg (some h19.1)) fun h25 => (if pb_is h25 v0 7 then (pb_hb (pb_pR h25 v0 1 (some ((pb_pR (pb_pR h9 h.1 (1 : Int32).toNatClampNeg (some ((pb_pR h4 h.1 (0 : Int32).toNatClampNeg (some ((pb_nw h).1))).1))) v0 0 (some h.1)).1))) fun h27 => (if pb_SH h27.1 = (16, ((2 : Int32)).toNatClampNeg) then (if pb_SH (pb_nw h27).1 = (4, 0) then ((f_70 (pb_nw (pb_nw h27)) ((pb_nw h27).1) 8 2).bind fun h31 => (if pb_ar h31 h27.1 16 0 then (if pb_is h31 ((pb_nw h27).1) 4 then (if pb_SH (pb_pR h31 h27.1 (0 : Int32).toNatClampNeg (some ((pb_nw h27).1))).1 = (4, 0) then ((f_70 (pb_nw (pb_pR h31 h27.1 (0 : Int32).toNatClampNeg (some ((pb_nw h27).1)))) ((pb_pR h31 h27.1 (0 : Int32).toNatClampNeg (some ((pb_nw h27).1))).1) 8 2).bind fun h36 => (if pb_ar h36 h27.1 16 1 then (if pb_is h36 ((pb_pR h31 h27.1 (0 : Int32).toNatClampNeg (some ((pb_nw h27).1))).1) 4 then (if pb_is (pb_pR h36 h27.1 (1 : Int32).toNatClampNeg (some ((pb_pR h31 h27.1 (0 : Int32).toNatClampNeg (some ((pb_nw h27).1))).1))) v0 7 then (if pb_SH (pb_pR (pb_pR h36 h27.1 (1 : Int32).toNatClampNeg (some ((pb_pR h31 h27.1 (0 : Int32).toNatClampNeg (some ((pb_nw h27).1))).1))) v0 2 (some h27.1)).1 = (12, ((3 : Int32)).toNatClampNeg) then (if pb_is (pb_nw (pb_pR (pb_pR h36 h27.1 (1 : Int32).toNatClampNeg (some ((pb_pR h31 h27.1 (0 : Int32).toNatClampNeg (some ((pb_nw h27).1))).1))) v0 2 (some h27.1))) v0 7 then (pb_hb (pb_pR (pb_nw (pb_pR (pb_pR h36 h27.1 (1 : Int32).toNatClampNeg (some ((pb_pR h31 h27.1 (0 : Int32).toNatClampNeg (some ((pb_nw h27).1))).1))) v0 2 (some h27.1))) v0 3 (some ((pb_pR (pb_pR h36 h27.1 (1 : Int32).toNatClampNeg (some ((pb_pR h31 h27.1 (0 : Int32).toNatClampNeg (some ((pb_nw h27).1))).1))) v0 2 (some h27.1)).1))) fun h42 => (if pb_SH h42.1 = (13, ((600 : Int32)).toNatClampNeg) then (if pb_is (pb_nw h42) v0 7 then (if pb_is (pb_pR (pb_nw h42) v0 4 (some h42.1)) v0 7 then (some (pb_pI (pb_pR (pb_nw h42) v0 4 (some h42.1)) v0 7 ((-1)))) else none) else none) else none)) else none) else none) else none) else none) else none)) else none) else none) else none)) else none) else none)) else none)) else none) else none)) else none)) else none) else none)) else none) else none) else none) else none) else none)) else none) else none) else none)) else none) else none
set_option maxRecDepth 4000 in
theorem l_99 {xs : List Int32} {d : Nat} {h : pb_HP} {v0 : Nat} {hE : pb_HP} (hf : f_99 h v0 = some hE) : pb_AR xs (d + 2) 99 h [.ref v0] none hE := by
  intro G hG
  have hc_ : pb_CODE 99 = kc_99 := rfl
  rw [hc_] at hG
  unfold f_99 at hf
  refine hG.1 0 0 kb_99_0 _ _ _ rfl ?_
  obtain ⟨hg1, hf⟩ := pb_gd hf
  obtain ⟨hg2, hf⟩ := pb_gd hf
  refine And.intro (Nat.le_of_ble_eq_true rfl) (And.intro (by decide) (And.intro hg1 (And.intro hg2 (?_))))
  obtain ⟨h4, cr3, hf⟩ := Option.bind_eq_some_iff.mp hf
  refine And.intro (Nat.le_of_ble_eq_true rfl) (And.intro (Nat.le_of_ble_eq_true rfl) (Exists.intro none (Exists.intro _ (And.intro (l_0 cr3) (?_)))))
  obtain ⟨hg5, hf⟩ := pb_gd hf
  obtain ⟨hg6, hf⟩ := pb_gd hf
  obtain ⟨hg7, hf⟩ := pb_gd hf
  refine And.intro (And.intro (by decide) (by decide)) (And.intro hg5 (And.intro hg6 (And.intro hg7 (?_))))
  obtain ⟨h9, cr8, hf⟩ := Option.bind_eq_some_iff.mp hf
  refine And.intro (Nat.le_of_ble_eq_true rfl) (And.intro (Nat.le_of_ble_eq_true rfl) (Exists.intro none (Exists.intro _ (And.intro (l_0 cr8) (?_)))))
  obtain ⟨hg10, hf⟩ := pb_gd hf
  obtain ⟨hg11, hf⟩ := pb_gd hf
  obtain ⟨hg12, hf⟩ := pb_gd hf
  obtain ⟨hg13, hf⟩ := pb_gd hf
  obtain ⟨hg14, hf⟩ := pb_gd hf
  refine And.intro (And.intro (by decide) (by decide)) (And.intro hg10 (And.intro hg11 (And.intro hg12 (And.intro (by decide) (And.intro hg13 (And.intro hg14 (?_)))))))
  obtain ⟨h16, cr15, hf⟩ := Option.bind_eq_some_iff.mp hf
  refine And.intro (Nat.le_of_ble_eq_true rfl) (And.intro (Nat.le_of_ble_eq_true rfl) (Exists.intro none (Exists.intro _ (And.intro (l_70 cr15) (?_)))))
  obtain ⟨hg17, hf⟩ := pb_gd hf
  obtain ⟨hg18, hf⟩ := pb_gd hf
  refine And.intro (And.intro (by decide) (by decide)) (And.intro hg17 (And.intro hg18 (?_)))
  refine pb_hset (E := pb_pR h16 ((pb_pR (pb_pR h9 h.1 (1 : Int32).toNatClampNeg (some ((pb_pR h4 h.1 (0 : Int32).toNatClampNeg (some ((pb_nw h).1))).1))) v0 0 (some h.1)).1) (0 : Int32).toNatClampNeg (some ((pb_nw (pb_pR (pb_pR h9 h.1 (1 : Int32).toNatClampNeg (some ((pb_pR h4 h.1 (0 : Int32).toNatClampNeg (some ((pb_nw h).1))).1))) v0 0 (some h.1))).1))) rfl (fun h19 eh19 => ?_)
  have hf := pb_hbd hf eh19
  obtain ⟨hg20, hf⟩ := pb_gd hf
  refine And.intro hg20 (?_)
  obtain ⟨h22, cr21, hf⟩ := Option.bind_eq_some_iff.mp hf
  refine And.intro (Nat.le_of_ble_eq_true rfl) (And.intro (Nat.le_of_ble_eq_true rfl) (Exists.intro none (Exists.intro _ (And.intro (l_70 cr21) (?_)))))
  obtain ⟨hg23, hf⟩ := pb_gd hf
  obtain ⟨hg24, hf⟩ := pb_gd hf
  refine And.intro (And.intro (by decide) (by decide)) (And.intro hg23 (And.intro hg24 (?_)))
  refine pb_hset (E := pb_pR h22 ((pb_pR (pb_pR h9 h.1 (1 : Int32).toNatClampNeg (some ((pb_pR h4 h.1 (0 : Int32).toNatClampNeg (some ((pb_nw h).1))).1))) v0 0 (some h.1)).1) (1 : Int32).toNatClampNeg (some h19.1)) rfl (fun h25 eh25 => ?_)
  have hf := pb_hbd hf eh25
  obtain ⟨hg26, hf⟩ := pb_gd hf
  refine And.intro hg26 (?_)
  refine pb_hset (E := pb_pR h25 v0 1 (some ((pb_pR (pb_pR h9 h.1 (1 : Int32).toNatClampNeg (some ((pb_pR h4 h.1 (0 : Int32).toNatClampNeg (some ((pb_nw h).1))).1))) v0 0 (some h.1)).1))) rfl (fun h27 eh27 => ?_)
  have hf := pb_hbd hf eh27
  obtain ⟨hg28, hf⟩ := pb_gd hf
  obtain ⟨hg29, hf⟩ := pb_gd hf
  refine And.intro (by decide) (And.intro hg28 (And.intro hg29 (?_)))
  obtain ⟨h31, cr30, hf⟩ := Option.bind_eq_some_iff.mp hf
  refine And.intro (Nat.le_of_ble_eq_true rfl) (And.intro (Nat.le_of_ble_eq_true rfl) (Exists.intro none (Exists.intro _ (And.intro (l_70 cr30) (?_)))))
  obtain ⟨hg32, hf⟩ := pb_gd hf
  obtain ⟨hg33, hf⟩ := pb_gd hf
  obtain ⟨hg34, hf⟩ := pb_gd hf
  refine And.intro (And.intro (by decide) (by decide)) (And.intro hg32 (And.intro hg33 (And.intro hg34 (?_))))
  obtain ⟨h36, cr35, hf⟩ := Option.bind_eq_some_iff.mp hf
  refine And.intro (Nat.le_of_ble_eq_true rfl) (And.intro (Nat.le_of_ble_eq_true rfl) (Exists.intro none (Exists.intro _ (And.intro (l_70 cr35) (?_)))))
  obtain ⟨hg37, hf⟩ := pb_gd hf
  obtain ⟨hg38, hf⟩ := pb_gd hf
  obtain ⟨hg39, hf⟩ := pb_gd hf
  obtain ⟨hg40, hf⟩ := pb_gd hf
  obtain ⟨hg41, hf⟩ := pb_gd hf
  refine And.intro (And.intro (by decide) (by decide)) (And.intro hg37 (And.intro hg38 (And.intro hg39 (And.intro (by decide) (And.intro hg40 (And.intro hg41 (?_)))))))
  refine pb_hset (E := pb_pR (pb_nw (pb_pR (pb_pR h36 h27.1 (1 : Int32).toNatClampNeg (some ((pb_pR h31 h27.1 (0 : Int32).toNatClampNeg (some ((pb_nw h27).1))).1))) v0 2 (some h27.1))) v0 3 (some ((pb_pR (pb_pR h36 h27.1 (1 : Int32).toNatClampNeg (some ((pb_pR h31 h27.1 (0 : Int32).toNatClampNeg (some ((pb_nw h27).1))).1))) v0 2 (some h27.1)).1))) rfl (fun h42 eh42 => ?_)
  have hf := pb_hbd hf eh42
  obtain ⟨hg43, hf⟩ := pb_gd hf
  obtain ⟨hg44, hf⟩ := pb_gd hf
  obtain ⟨hg45, hf⟩ := pb_gd hf
  refine And.intro (by decide) (And.intro hg43 (And.intro hg44 (And.intro hg45 (?_))))
  cases hf
  exact And.intro rfl rfl
/-- Trial.<init> -/
def f_108 (h : pb_HP) (v0 : Nat) : Option (pb_HP) :=
  if pb_SH h.1 = (0, 0) then ((f_0 (pb_nw h) h.1).bind fun h3 => (if pb_is h3 v0 8 then (if pb_SH (pb_pR h3 v0 0 (some h.1)).1 = (5, 0) then ((f_75 (pb_nw (pb_pR h3 v0 0 (some h.1))) ((pb_pR h3 v0 0 (some h.1)).1)).bind fun h7 => (if pb_is h7 v0 8 then (some (pb_pR h7 v0 1 (some ((pb_pR h3 v0 0 (some h.1)).1)))) else none)) else none) else none)) else none
set_option maxRecDepth 4000 in
theorem l_108 {xs : List Int32} {d : Nat} {h : pb_HP} {v0 : Nat} {hE : pb_HP} (hf : f_108 h v0 = some hE) : pb_AR xs (d + 2) 108 h [.ref v0] none hE := by
  intro G hG
  have hc_ : pb_CODE 108 = kc_108 := rfl
  rw [hc_] at hG
  unfold f_108 at hf
  refine hG.1 0 0 kb_108_0 _ _ _ rfl ?_
  obtain ⟨hg1, hf⟩ := pb_gd hf
  refine And.intro (Nat.le_of_ble_eq_true rfl) (And.intro hg1 (?_))
  obtain ⟨h3, cr2, hf⟩ := Option.bind_eq_some_iff.mp hf
  refine And.intro (Nat.le_of_ble_eq_true rfl) (And.intro (Nat.le_of_ble_eq_true rfl) (Exists.intro none (Exists.intro _ (And.intro (l_0 cr2) (?_)))))
  obtain ⟨hg4, hf⟩ := pb_gd hf
  obtain ⟨hg5, hf⟩ := pb_gd hf
  refine And.intro hg4 (And.intro hg5 (?_))
  obtain ⟨h7, cr6, hf⟩ := Option.bind_eq_some_iff.mp hf
  refine And.intro (Nat.le_of_ble_eq_true rfl) (And.intro (Nat.le_of_ble_eq_true rfl) (Exists.intro none (Exists.intro _ (And.intro (l_75 cr6) (?_)))))
  obtain ⟨hg8, hf⟩ := pb_gd hf
  refine And.intro hg8 (?_)
  cases hf
  exact And.intro rfl rfl
/-- PointedBench.<init> -/
def f_123 (N : Nat) (h : pb_HP) (v0 : Nat) : Option (pb_HP) :=
  if pb_SH h.1 = (7, 0) then ((f_99 (pb_nw h) h.1).bind fun h3 => (if pb_is h3 v0 10 then (if pb_SH (pb_pR h3 v0 0 (some h.1)).1 = (17, ((3 : Int32)).toNatClampNeg) then (if pb_SH (pb_nw (pb_pR h3 v0 0 (some h.1))).1 = (7, 0) then ((f_99 (pb_nw (pb_nw (pb_pR h3 v0 0 (some h.1)))) ((pb_nw (pb_pR h3 v0 0 (some h.1))).1)).bind fun h8 => (if pb_ar h8 ((pb_pR h3 v0 0 (some h.1)).1) 17 0 then (if pb_is h8 ((pb_nw (pb_pR h3 v0 0 (some h.1))).1) 7 then (if pb_SH (pb_pR h8 ((pb_pR h3 v0 0 (some h.1)).1) (0 : Int32).toNatClampNeg (some ((pb_nw (pb_pR h3 v0 0 (some h.1))).1))).1 = (7, 0) then ((f_99 (pb_nw (pb_pR h8 ((pb_pR h3 v0 0 (some h.1)).1) (0 : Int32).toNatClampNeg (some ((pb_nw (pb_pR h3 v0 0 (some h.1))).1)))) ((pb_pR h8 ((pb_pR h3 v0 0 (some h.1)).1) (0 : Int32).toNatClampNeg (some ((pb_nw (pb_pR h3 v0 0 (some h.1))).1))).1)).bind fun h13 => (if pb_ar h13 ((pb_pR h3 v0 0 (some h.1)).1) 17 1 then (if pb_is h13 ((pb_pR h8 ((pb_pR h3 v0 0 (some h.1)).1) (0 : Int32).toNatClampNeg (some ((pb_nw (pb_pR h3 v0 0 (some h.1))).1))).1) 7 then (pb_hb (pb_pR h13 ((pb_pR h3 v0 0 (some h.1)).1) (1 : Int32).toNatClampNeg (some ((pb_pR h8 ((pb_pR h3 v0 0 (some h.1)).1) (0 : Int32).toNatClampNeg (some ((pb_nw (pb_pR h3 v0 0 (some h.1))).1))).1))) fun h16 => (if pb_SH h16.1 = (7, 0) then ((f_99 (pb_nw h16) h16.1).bind fun h19 => (if pb_ar h19 ((pb_pR h3 v0 0 (some h.1)).1) 17 2 then (if pb_is h19 h16.1 7 then (if pb_is (pb_pR h19 ((pb_pR h3 v0 0 (some h.1)).1) (2 : Int32).toNatClampNeg (some h16.1)) v0 10 then (if pb_SH (pb_pR (pb_pR h19 ((pb_pR h3 v0 0 (some h.1)).1) (2 : Int32).toNatClampNeg (some h16.1)) v0 1 (some ((pb_pR h3 v0 0 (some h.1)).1))).1 = (14, ((3 : Int32)).toNatClampNeg) then (if pb_is (pb_nw (pb_pR (pb_pR h19 ((pb_pR h3 v0 0 (some h.1)).1) (2 : Int32).toNatClampNeg (some h16.1)) v0 1 (some ((pb_pR h3 v0 0 (some h.1)).1)))) v0 10 then (pb_hb (pb_pR (pb_nw (pb_pR (pb_pR h19 ((pb_pR h3 v0 0 (some h.1)).1) (2 : Int32).toNatClampNeg (some h16.1)) v0 1 (some ((pb_pR h3 v0 0 (some h.1)).1)))) v0 2 (some ((pb_pR (pb_pR h19 ((pb_pR h3 v0 0 (some h.1)).1) (2 : Int32).toNatClampNeg (some h16.1)) v0 1 (some ((pb_pR h3 v0 0 (some h.1)).1))).1))) fun h25 => (if pb_SH h25.1 = (6, 0) then ((f_84 (pb_nw h25) h25.1).bind fun h28 => (if pb_is h28 v0 10 then (if pb_SH (pb_pR h28 v0 3 (some h25.1)).1 = (5, 0) then ((f_75 (pb_nw (pb_pR h28 v0 3 (some h25.1))) ((pb_pR h28 v0 3 (some h25.1)).1)).bind fun h32 => (if pb_is h32 v0 10 then (if pb_SH (pb_pR h32 v0 4 (some ((pb_pR h28 v0 3 (some h25.1)).1))).1 = (8, 0) then ((f_108 (pb_nw (pb_pR h32 v0 4 (some ((pb_pR h28 v0 3 (some h25.1)).1)))) ((pb_pR h32 v0 4 (some ((pb_pR h28 v0 3 (some h25.1)).1))).1)).bind fun h36 => (if pb_is h36 v0 10 then (if pb_SH (pb_pR h36 v0 5 (some ((pb_pR h32 v0 4 (some ((pb_pR h28 v0 3 (some h25.1)).1))).1))).1 = (2, 0) then ((f_49 (pb_nw (pb_pR h36 v0 5 (some ((pb_pR h32 v0 4 (some ((pb_pR h28 v0 3 (some h25.1)).1))).1)))) ((pb_pR h36 v0 5 (some ((pb_pR h32 v0 4 (some ((pb_pR h28 v0 3 (some h25.1)).1))).1))).1)).bind fun h40 => (if pb_is h40 v0 10 then (if pb_SH (pb_pR h40 v0 6 (some ((pb_pR h36 v0 5 (some ((pb_pR h32 v0 4 (some ((pb_pR h28 v0 3 (some h25.1)).1))).1))).1))).1 = (9, 0) then ((f_119 (pb_nw (pb_pR h40 v0 6 (some ((pb_pR h36 v0 5 (some ((pb_pR h32 v0 4 (some ((pb_pR h28 v0 3 (some h25.1)).1))).1))).1)))) ((pb_pR h40 v0 6 (some ((pb_pR h36 v0 5 (some ((pb_pR h32 v0 4 (some ((pb_pR h28 v0 3 (some h25.1)).1))).1))).1))).1)).bind fun h44 => (if pb_is h44 v0 10 then (if pb_SH (pb_pR h44 v0 7 (some ((pb_pR h40 v0 6 (some ((pb_pR h36 v0 5 (some ((pb_pR h32 v0 4 (some ((pb_pR h28 v0 3 (some h25.1)).1))).1))).1))).1))).1 = (1, 0) then ((f_27 (pb_nw (pb_pR h44 v0 7 (some ((pb_pR h40 v0 6 (some ((pb_pR h36 v0 5 (some ((pb_pR h32 v0 4 (some ((pb_pR h28 v0 3 (some h25.1)).1))).1))).1))).1)))) ((pb_pR h44 v0 7 (some ((pb_pR h40 v0 6 (some ((pb_pR h36 v0 5 (some ((pb_pR h32 v0 4 (some ((pb_pR h28 v0 3 (some h25.1)).1))).1))).1))).1))).1)).bind fun h48 => (if pb_is h48 v0 10 then (pb_hb (pb_pR h48 v0 8 (some ((pb_pR h44 v0 7 (some ((pb_pR h40 v0 6 (some ((pb_pR h36 v0 5 (some ((pb_pR h32 v0 4 (some ((pb_pR h28 v0 3 (some h25.1)).1))).1))).1))).1))).1))) fun h50 => (if pb_SH h50.1 = (3, 0) then ((f_59 N (pb_nw h50) h50.1).bind fun h53 => (if pb_is h53 v0 10 then (some (pb_pR h53 v0 9 (some h50.1))) else none)) else none)) else none)) else none) else none)) else none) else none)) else none) else none)) else none) else none)) else none) else none)) else none)) else none) else none) else none) else none) else none)) else none)) else none) else none)) else none) else none) else none)) else none) else none) else none)) else none
set_option maxRecDepth 4000 in
theorem l_123 {xs : List Int32} {d : Nat} {N : Nat} {h : pb_HP} {v0 : Nat} {hE : pb_HP} (hf : f_123 N h v0 = some hE) : pb_AR xs (d + 3) 123 h [.ref v0] none hE := by
  intro G hG
  have hc_ : pb_CODE 123 = kc_123 := rfl
  rw [hc_] at hG
  unfold f_123 at hf
  refine hG.1 0 0 kb_123_0 _ _ _ rfl ?_
  obtain ⟨hg1, hf⟩ := pb_gd hf
  refine And.intro (Nat.le_of_ble_eq_true rfl) (And.intro hg1 (?_))
  obtain ⟨h3, cr2, hf⟩ := Option.bind_eq_some_iff.mp hf
  refine And.intro (Nat.le_of_ble_eq_true rfl) (And.intro (Nat.le_of_ble_eq_true rfl) (Exists.intro none (Exists.intro _ (And.intro (l_99 cr2) (?_)))))
  obtain ⟨hg4, hf⟩ := pb_gd hf
  obtain ⟨hg5, hf⟩ := pb_gd hf
  obtain ⟨hg6, hf⟩ := pb_gd hf
  refine And.intro hg4 (And.intro (by decide) (And.intro hg5 (And.intro hg6 (?_))))
  obtain ⟨h8, cr7, hf⟩ := Option.bind_eq_some_iff.mp hf
  refine And.intro (Nat.le_of_ble_eq_true rfl) (And.intro (Nat.le_of_ble_eq_true rfl) (Exists.intro none (Exists.intro _ (And.intro (l_99 cr7) (?_)))))
  obtain ⟨hg9, hf⟩ := pb_gd hf
  obtain ⟨hg10, hf⟩ := pb_gd hf
  obtain ⟨hg11, hf⟩ := pb_gd hf
  refine And.intro (And.intro (by decide) (by decide)) (And.intro hg9 (And.intro hg10 (And.intro hg11 (?_))))
  obtain ⟨h13, cr12, hf⟩ := Option.bind_eq_some_iff.mp hf
  refine And.intro (Nat.le_of_ble_eq_true rfl) (And.intro (Nat.le_of_ble_eq_true rfl) (Exists.intro none (Exists.intro _ (And.intro (l_99 cr12) (?_)))))
  obtain ⟨hg14, hf⟩ := pb_gd hf
  obtain ⟨hg15, hf⟩ := pb_gd hf
  refine And.intro (And.intro (by decide) (by decide)) (And.intro hg14 (And.intro hg15 (?_)))
  refine pb_hset (E := pb_pR h13 ((pb_pR h3 v0 0 (some h.1)).1) (1 : Int32).toNatClampNeg (some ((pb_pR h8 ((pb_pR h3 v0 0 (some h.1)).1) (0 : Int32).toNatClampNeg (some ((pb_nw (pb_pR h3 v0 0 (some h.1))).1))).1))) rfl (fun h16 eh16 => ?_)
  have hf := pb_hbd hf eh16
  obtain ⟨hg17, hf⟩ := pb_gd hf
  refine And.intro hg17 (?_)
  obtain ⟨h19, cr18, hf⟩ := Option.bind_eq_some_iff.mp hf
  refine And.intro (Nat.le_of_ble_eq_true rfl) (And.intro (Nat.le_of_ble_eq_true rfl) (Exists.intro none (Exists.intro _ (And.intro (l_99 cr18) (?_)))))
  obtain ⟨hg20, hf⟩ := pb_gd hf
  obtain ⟨hg21, hf⟩ := pb_gd hf
  obtain ⟨hg22, hf⟩ := pb_gd hf
  obtain ⟨hg23, hf⟩ := pb_gd hf
  obtain ⟨hg24, hf⟩ := pb_gd hf
  refine And.intro (And.intro (by decide) (by decide)) (And.intro hg20 (And.intro hg21 (And.intro hg22 (And.intro (by decide) (And.intro hg23 (And.intro hg24 (?_)))))))
  refine pb_hset (E := pb_pR (pb_nw (pb_pR (pb_pR h19 ((pb_pR h3 v0 0 (some h.1)).1) (2 : Int32).toNatClampNeg (some h16.1)) v0 1 (some ((pb_pR h3 v0 0 (some h.1)).1)))) v0 2 (some ((pb_pR (pb_pR h19 ((pb_pR h3 v0 0 (some h.1)).1) (2 : Int32).toNatClampNeg (some h16.1)) v0 1 (some ((pb_pR h3 v0 0 (some h.1)).1))).1))) rfl (fun h25 eh25 => ?_)
  have hf := pb_hbd hf eh25
  obtain ⟨hg26, hf⟩ := pb_gd hf
  refine And.intro hg26 (?_)
  obtain ⟨h28, cr27, hf⟩ := Option.bind_eq_some_iff.mp hf
  refine And.intro (Nat.le_of_ble_eq_true rfl) (And.intro (Nat.le_of_ble_eq_true rfl) (Exists.intro none (Exists.intro _ (And.intro (l_84 cr27) (?_)))))
  obtain ⟨hg29, hf⟩ := pb_gd hf
  obtain ⟨hg30, hf⟩ := pb_gd hf
  refine And.intro hg29 (And.intro hg30 (?_))
  obtain ⟨h32, cr31, hf⟩ := Option.bind_eq_some_iff.mp hf
  refine And.intro (Nat.le_of_ble_eq_true rfl) (And.intro (Nat.le_of_ble_eq_true rfl) (Exists.intro none (Exists.intro _ (And.intro (l_75 cr31) (?_)))))
  obtain ⟨hg33, hf⟩ := pb_gd hf
  obtain ⟨hg34, hf⟩ := pb_gd hf
  refine And.intro hg33 (And.intro hg34 (?_))
  obtain ⟨h36, cr35, hf⟩ := Option.bind_eq_some_iff.mp hf
  refine And.intro (Nat.le_of_ble_eq_true rfl) (And.intro (Nat.le_of_ble_eq_true rfl) (Exists.intro none (Exists.intro _ (And.intro (l_108 cr35) (?_)))))
  obtain ⟨hg37, hf⟩ := pb_gd hf
  obtain ⟨hg38, hf⟩ := pb_gd hf
  refine And.intro hg37 (And.intro hg38 (?_))
  obtain ⟨h40, cr39, hf⟩ := Option.bind_eq_some_iff.mp hf
  refine And.intro (Nat.le_of_ble_eq_true rfl) (And.intro (Nat.le_of_ble_eq_true rfl) (Exists.intro none (Exists.intro _ (And.intro (l_49 cr39) (?_)))))
  obtain ⟨hg41, hf⟩ := pb_gd hf
  obtain ⟨hg42, hf⟩ := pb_gd hf
  refine And.intro hg41 (And.intro hg42 (?_))
  obtain ⟨h44, cr43, hf⟩ := Option.bind_eq_some_iff.mp hf
  refine And.intro (Nat.le_of_ble_eq_true rfl) (And.intro (Nat.le_of_ble_eq_true rfl) (Exists.intro none (Exists.intro _ (And.intro (l_119 cr43) (?_)))))
  obtain ⟨hg45, hf⟩ := pb_gd hf
  obtain ⟨hg46, hf⟩ := pb_gd hf
  refine And.intro hg45 (And.intro hg46 (?_))
  obtain ⟨h48, cr47, hf⟩ := Option.bind_eq_some_iff.mp hf
  refine And.intro (Nat.le_of_ble_eq_true rfl) (And.intro (Nat.le_of_ble_eq_true rfl) (Exists.intro none (Exists.intro _ (And.intro (l_27 cr47) (?_)))))
  obtain ⟨hg49, hf⟩ := pb_gd hf
  refine And.intro hg49 (?_)
  refine pb_hset (E := pb_pR h48 v0 8 (some ((pb_pR h44 v0 7 (some ((pb_pR h40 v0 6 (some ((pb_pR h36 v0 5 (some ((pb_pR h32 v0 4 (some ((pb_pR h28 v0 3 (some h25.1)).1))).1))).1))).1))).1))) rfl (fun h50 eh50 => ?_)
  have hf := pb_hbd hf eh50
  obtain ⟨hg51, hf⟩ := pb_gd hf
  refine And.intro hg51 (?_)
  obtain ⟨h53, cr52, hf⟩ := Option.bind_eq_some_iff.mp hf
  refine And.intro (Nat.le_of_ble_eq_true rfl) (And.intro (Nat.le_of_ble_eq_true rfl) (Exists.intro none (Exists.intro _ (And.intro (l_59 cr52) (?_)))))
  obtain ⟨hg54, hf⟩ := pb_gd hf
  refine And.intro hg54 (?_)
  cases hf
  exact And.intro rfl rfl
