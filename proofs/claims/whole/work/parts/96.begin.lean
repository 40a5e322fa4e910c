/-! The start: both objects made. -/
def mk_L : List (Nat × Nat × Nat) := [(217, 51, 240), (217, 46, 239), (217, 45, 238), (217, 44, 237), (217, 43, 236), (217, 40, 235), (217, 37, 234), (217, 35, 233), (217, 34, 232), (217, 33, 231), (217, 32, 230), (217, 31, 229), (217, 30, 228), (217, 19, 227), (217, 18, 226), (217, 8, 225), (217, 7, 224), (217, 6, 223), (217, 5, 222), (217, 4, 221), (217, 3, 220), (217, 2, 219), (217, 1, 218), (0, 9, 212), (212, 4, 216), (212, 3, 215), (212, 2, 214), (212, 1, 213), (0, 8, 200), (200, 3, 211), (200, 2, 210), (200, 1, 208), (208, 2, 209), (200, 0, 201), (201, 7, 207), (201, 6, 206), (201, 5, 205), (201, 4, 204), (201, 3, 203), (201, 2, 202), (0, 7, 198), (198, 0, 199), (0, 6, 194), (194, 3, 197), (194, 2, 196), (194, 0, 195), (0, 5, 184), (184, 1, 192), (192, 2, 193), (184, 0, 185), (185, 7, 191), (185, 6, 190), (185, 5, 189), (185, 4, 188), (185, 3, 187), (185, 2, 186), (0, 4, 182), (182, 2, 183), (0, 3, 163), (163, 12, 181), (163, 2, 176), (176, 4, 180), (176, 3, 179), (176, 2, 178), (176, 1, 177), (163, 1, 171), (171, 4, 175), (171, 3, 174), (171, 2, 173), (171, 1, 172), (163, 0, 164), (164, 7, 170), (164, 6, 169), (164, 5, 168), (164, 4, 167), (164, 3, 166), (164, 2, 165), (0, 2, 162), (0, 1, 41), (41, 2, 122), (122, 4, 161), (122, 3, 160), (122, 2, 149), (149, 1, 155), (155, 4, 159), (155, 3, 158), (155, 2, 157), (155, 1, 156), (149, 0, 150), (150, 4, 154), (150, 3, 153), (150, 2, 152), (150, 1, 151), (122, 1, 138), (138, 1, 144), (144, 4, 148), (144, 3, 147), (144, 2, 146), (144, 1, 145), (138, 0, 139), (139, 4, 143), (139, 3, 142), (139, 2, 141), (139, 1, 140), (122, 0, 123), (123, 1, 131), (131, 7, 137), (131, 6, 136), (131, 5, 135), (131, 4, 134), (131, 3, 133), (131, 2, 132), (123, 0, 124), (124, 7, 130), (124, 6, 129), (124, 5, 128), (124, 4, 127), (124, 3, 126), (124, 2, 125), (41, 1, 82), (82, 4, 121), (82, 3, 120), (82, 2, 109), (109, 1, 115), (115, 4, 119), (115, 3, 118), (115, 2, 117), (115, 1, 116), (109, 0, 110), (110, 4, 114), (110, 3, 113), (110, 2, 112), (110, 1, 111), (82, 1, 98), (98, 1, 104), (104, 4, 108), (104, 3, 107), (104, 2, 106), (104, 1, 105), (98, 0, 99), (99, 4, 103), (99, 3, 102), (99, 2, 101), (99, 1, 100), (82, 0, 83), (83, 1, 91), (91, 7, 97), (91, 6, 96), (91, 5, 95), (91, 4, 94), (91, 3, 93), (91, 2, 92), (83, 0, 84), (84, 7, 90), (84, 6, 89), (84, 5, 88), (84, 4, 87), (84, 3, 86), (84, 2, 85), (41, 0, 42), (42, 4, 81), (42, 3, 80), (42, 2, 69), (69, 1, 75), (75, 4, 79), (75, 3, 78), (75, 2, 77), (75, 1, 76), (69, 0, 70), (70, 4, 74), (70, 3, 73), (70, 2, 72), (70, 1, 71), (42, 1, 58), (58, 1, 64), (64, 4, 68), (64, 3, 67), (64, 2, 66), (64, 1, 65), (58, 0, 59), (59, 4, 63), (59, 3, 62), (59, 2, 61), (59, 1, 60), (42, 0, 43), (43, 1, 51), (51, 7, 57), (51, 6, 56), (51, 5, 55), (51, 4, 54), (51, 3, 53), (51, 2, 52), (43, 0, 44), (44, 7, 50), (44, 6, 49), (44, 5, 48), (44, 4, 47), (44, 3, 46), (44, 2, 45), (0, 0, 1), (1, 4, 40), (1, 3, 39), (1, 2, 28), (28, 1, 34), (34, 4, 38), (34, 3, 37), (34, 2, 36), (34, 1, 35), (28, 0, 29), (29, 4, 33), (29, 3, 32), (29, 2, 31), (29, 1, 30), (1, 1, 17), (17, 1, 23), (23, 4, 27), (23, 3, 26), (23, 2, 25), (23, 1, 24), (17, 0, 18), (18, 4, 22), (18, 3, 21), (18, 2, 20), (18, 1, 19), (1, 0, 2), (2, 1, 10), (10, 7, 16), (10, 6, 15), (10, 5, 14), (10, 4, 13), (10, 3, 12), (10, 2, 11), (2, 0, 3), (3, 7, 9), (3, 6, 8), (3, 5, 7), (3, 4, 6), (3, 3, 5), (3, 2, 4)]
def mk_I0 : List (Nat × Nat × Int32) := [(176, 5, (2)), (171, 5, (3)), (122, 7, (-1)), (155, 5, (2)), (150, 5, (2)), (144, 5, (3)), (139, 5, (3)), (82, 7, (-1)), (115, 5, (2)), (110, 5, (2)), (104, 5, (3)), (99, 5, (3)), (42, 7, (-1)), (75, 5, (2)), (70, 5, (2)), (64, 5, (3)), (59, 5, (3)), (1, 7, (-1)), (34, 5, (2)), (29, 5, (2)), (23, 5, (3)), (18, 5, (3))]
def mk_I : List (Nat × Nat × Int32) := (221, 0, (-1)) :: mk_I0
theorem mk_l_0 {L : List (Nat × Nat × Nat)} {o k : Nat} (h : ∀ q, q ∈ L → ¬ (o = q.1 ∧ k = q.2.1)) : mk_l L o k = none := by
  induction L with
  | nil => rfl
  | cons q L ih =>
    unfold mk_l
    rw [if_neg (h q (List.mem_cons_self ..))]
    exact ih (fun p hp => h p (List.mem_cons_of_mem _ hp))
theorem mk_L1 : ∀ q, q ∈ mk_L → q.2.1 < (ma_RTL.getD q.1 []).length := by decide +kernel
theorem mk_L2 : ∀ o, o < 241 → ∀ k, k < (ma_RTL.getD o []).length → ¬ (o = 163 ∧ k = 5) → mk_l mk_L o k = ma_RT o k := by decide +kernel
theorem mk_RTn : ma_RTL.length = 241 := by decide +kernel
theorem mk_L3 {o k : Nat} (z : ¬ (o = 163 ∧ k = 5)) : mk_l mk_L o k = ma_RT o k := by
  by_cases c : k < (ma_RTL.getD o []).length
  · by_cases d : o < 241
    · exact mk_L2 o d k c z
    · have : ma_RTL.getD o [] = [] := by
        rw [List.getD_eq_getElem?_getD, List.getElem?_eq_none (Nat.le_trans (Nat.le_of_eq mk_RTn) (Nat.le_of_not_lt d))]
        rfl
      rw [this] at c
      exact absurd c (Nat.not_lt_zero _)
  · unfold ma_RT
    rw [mk_l_0 (fun q hq z => c (by rw [z.1, z.2]; exact mk_L1 q hq)), List.getD_eq_getElem?_getD (l := ma_RTL.getD o []), List.getElem?_eq_none (by omega)]
    rfl
theorem mk_i_a {o k : Nat} (h : (mk_I.all fun q => o != q.1) = true) : mk_i mk_I o k = 0 := by
  refine mk_i_0 (fun q hq z => ?_)
  have := List.all_eq_true.mp h q hq
  simp [z.1] at this
def mk_X : ma_X := (fun _ _ _ => 0, fun _ => (0, fun _ _ => 0), fun _ => (0, fun _ _ => 0), fun _ => 0, fun _ => 0, 0, 0, 0)
theorem mk_GX0 : ma_GX mk_X := by
  refine ⟨fun k _ => ⟨⟨Nat.zero_le _, Nat.zero_le _, fun k => ⟨?_, ?_, ?_, ?_, ?_, ?_⟩, fun _ _ => rfl, fun _ _ => rfl⟩, fun k => ⟨?_, ?_⟩⟩, fun k _ => ⟨?_, fun j hj => absurd hj (Nat.not_lt_zero j)⟩, fun k _ => ⟨?_, fun j hj => absurd hj (Nat.not_lt_zero j)⟩, fun s _ => ?_, fun j _ => ?_, ?_, ?_, ?_⟩ <;> (simp only [mk_X]; decide)
theorem mk_CX {h : pb_HP} (Z : ∀ o k, o ≠ 214 → pb_I h o k = mk_i mk_I o k) {t : Nat} (ht : t = 1 ∨ t = 42 ∨ t = 82 ∨ t = 122) : ma_CX h t mk_X := by
  rcases ht with rfl | rfl | rfl | rfl
  · refine ⟨fun k hk => ?_, fun k hk => ?_, fun k hk => ?_, fun s _ => ?_, fun j _ => ?_, ?_, ?_, ?_⟩
    · have : k = 0 ∨ k = 1 := by omega
      rcases this with rfl | rfl
      · refine ⟨by unfold ma_ct; decide, ?_, ?_, fun m hm => absurd hm (Nat.not_lt_zero m), fun m _ => ?_, fun m hm => absurd hm (Nat.not_lt_zero m), fun m hm => absurd hm (Nat.not_lt_zero m), fun m _ => ?_, fun m _ => ?_⟩ <;> (rw [Z _ _ (by decide), mk_i_a (by decide)]; rfl)
      · refine ⟨by unfold ma_ct; decide, ?_, ?_, fun m hm => absurd hm (Nat.not_lt_zero m), fun m _ => ?_, fun m hm => absurd hm (Nat.not_lt_zero m), fun m hm => absurd hm (Nat.not_lt_zero m), fun m _ => ?_, fun m _ => ?_⟩ <;> (rw [Z _ _ (by decide), mk_i_a (by decide)]; rfl)
    · have : k = 0 ∨ k = 1 := by omega
      rcases this with rfl | rfl
      · refine ⟨by unfold ma_lt; decide, ?_, ?_, fun j hj => absurd hj (Nat.not_lt_zero j)⟩ <;> (rw [Z _ _ (by decide)]; rfl)
      · refine ⟨by unfold ma_lt; decide, ?_, ?_, fun j hj => absurd hj (Nat.not_lt_zero j)⟩ <;> (rw [Z _ _ (by decide)]; rfl)
    · have : k = 0 ∨ k = 1 := by omega
      rcases this with rfl | rfl
      · refine ⟨by unfold ma_lt; decide, ?_, ?_, fun j hj => absurd hj (Nat.not_lt_zero j)⟩ <;> (rw [Z _ _ (by decide)]; rfl)
      · refine ⟨by unfold ma_lt; decide, ?_, ?_, fun j hj => absurd hj (Nat.not_lt_zero j)⟩ <;> (rw [Z _ _ (by decide)]; rfl)
    · rw [Z _ _ (by decide), mk_i_a (by decide)]; rfl
    · rw [Z _ _ (by decide), mk_i_a (by decide)]; rfl
    · rw [Z _ _ (by decide)]; rfl
    · rw [Z _ _ (by decide)]; rfl
    · rw [Z _ _ (by decide)]; rfl
  · refine ⟨fun k hk => ?_, fun k hk => ?_, fun k hk => ?_, fun s _ => ?_, fun j _ => ?_, ?_, ?_, ?_⟩
    · have : k = 0 ∨ k = 1 := by omega
      rcases this with rfl | rfl
      · refine ⟨by unfold ma_ct; decide, ?_, ?_, fun m hm => absurd hm (Nat.not_lt_zero m), fun m _ => ?_, fun m hm => absurd hm (Nat.not_lt_zero m), fun m hm => absurd hm (Nat.not_lt_zero m), fun m _ => ?_, fun m _ => ?_⟩ <;> (rw [Z _ _ (by decide), mk_i_a (by decide)]; rfl)
      · refine ⟨by unfold ma_ct; decide, ?_, ?_, fun m hm => absurd hm (Nat.not_lt_zero m), fun m _ => ?_, fun m hm => absurd hm (Nat.not_lt_zero m), fun m hm => absurd hm (Nat.not_lt_zero m), fun m _ => ?_, fun m _ => ?_⟩ <;> (rw [Z _ _ (by decide), mk_i_a (by decide)]; rfl)
    · have : k = 0 ∨ k = 1 := by omega
      rcases this with rfl | rfl
      · refine ⟨by unfold ma_lt; decide, ?_, ?_, fun j hj => absurd hj (Nat.not_lt_zero j)⟩ <;> (rw [Z _ _ (by decide)]; rfl)
      · refine ⟨by unfold ma_lt; decide, ?_, ?_, fun j hj => absurd hj (Nat.not_lt_zero j)⟩ <;> (rw [Z _ _ (by decide)]; rfl)
    · have : k = 0 ∨ k = 1 := by omega
      rcases this with rfl | rfl
      · refine ⟨by unfold ma_lt; decide, ?_, ?_, fun j hj => absurd hj (Nat.not_lt_zero j)⟩ <;> (rw [Z _ _ (by decide)]; rfl)
      · refine ⟨by unfold ma_lt; decide, ?_, ?_, fun j hj => absurd hj (Nat.not_lt_zero j)⟩ <;> (rw [Z _ _ (by decide)]; rfl)
    · rw [Z _ _ (by decide), mk_i_a (by decide)]; rfl
    · rw [Z _ _ (by decide), mk_i_a (by decide)]; rfl
    · rw [Z _ _ (by decide)]; rfl
    · rw [Z _ _ (by decide)]; rfl
    · rw [Z _ _ (by decide)]; rfl
  · refine ⟨fun k hk => ?_, fun k hk => ?_, fun k hk => ?_, fun s _ => ?_, fun j _ => ?_, ?_, ?_, ?_⟩
    · have : k = 0 ∨ k = 1 := by omega
      rcases this with rfl | rfl
      · refine ⟨by unfold ma_ct; decide, ?_, ?_, fun m hm => absurd hm (Nat.not_lt_zero m), fun m _ => ?_, fun m hm => absurd hm (Nat.not_lt_zero m), fun m hm => absurd hm (Nat.not_lt_zero m), fun m _ => ?_, fun m _ => ?_⟩ <;> (rw [Z _ _ (by decide), mk_i_a (by decide)]; rfl)
      · refine ⟨by unfold ma_ct; decide, ?_, ?_, fun m hm => absurd hm (Nat.not_lt_zero m), fun m _ => ?_, fun m hm => absurd hm (Nat.not_lt_zero m), fun m hm => absurd hm (Nat.not_lt_zero m), fun m _ => ?_, fun m _ => ?_⟩ <;> (rw [Z _ _ (by decide), mk_i_a (by decide)]; rfl)
    · have : k = 0 ∨ k = 1 := by omega
      rcases this with rfl | rfl
      · refine ⟨by unfold ma_lt; decide, ?_, ?_, fun j hj => absurd hj (Nat.not_lt_zero j)⟩ <;> (rw [Z _ _ (by decide)]; rfl)
      · refine ⟨by unfold ma_lt; decide, ?_, ?_, fun j hj => absurd hj (Nat.not_lt_zero j)⟩ <;> (rw [Z _ _ (by decide)]; rfl)
    · have : k = 0 ∨ k = 1 := by omega
      rcases this with rfl | rfl
      · refine ⟨by unfold ma_lt; decide, ?_, ?_, fun j hj => absurd hj (Nat.not_lt_zero j)⟩ <;> (rw [Z _ _ (by decide)]; rfl)
      · refine ⟨by unfold ma_lt; decide, ?_, ?_, fun j hj => absurd hj (Nat.not_lt_zero j)⟩ <;> (rw [Z _ _ (by decide)]; rfl)
    · rw [Z _ _ (by decide), mk_i_a (by decide)]; rfl
    · rw [Z _ _ (by decide), mk_i_a (by decide)]; rfl
    · rw [Z _ _ (by decide)]; rfl
    · rw [Z _ _ (by decide)]; rfl
    · rw [Z _ _ (by decide)]; rfl
  · refine ⟨fun k hk => ?_, fun k hk => ?_, fun k hk => ?_, fun s _ => ?_, fun j _ => ?_, ?_, ?_, ?_⟩
    · have : k = 0 ∨ k = 1 := by omega
      rcases this with rfl | rfl
      · refine ⟨by unfold ma_ct; decide, ?_, ?_, fun m hm => absurd hm (Nat.not_lt_zero m), fun m _ => ?_, fun m hm => absurd hm (Nat.not_lt_zero m), fun m hm => absurd hm (Nat.not_lt_zero m), fun m _ => ?_, fun m _ => ?_⟩ <;> (rw [Z _ _ (by decide), mk_i_a (by decide)]; rfl)
      · refine ⟨by unfold ma_ct; decide, ?_, ?_, fun m hm => absurd hm (Nat.not_lt_zero m), fun m _ => ?_, fun m hm => absurd hm (Nat.not_lt_zero m), fun m hm => absurd hm (Nat.not_lt_zero m), fun m _ => ?_, fun m _ => ?_⟩ <;> (rw [Z _ _ (by decide), mk_i_a (by decide)]; rfl)
    · have : k = 0 ∨ k = 1 := by omega
      rcases this with rfl | rfl
      · refine ⟨by unfold ma_lt; decide, ?_, ?_, fun j hj => absurd hj (Nat.not_lt_zero j)⟩ <;> (rw [Z _ _ (by decide)]; rfl)
      · refine ⟨by unfold ma_lt; decide, ?_, ?_, fun j hj => absurd hj (Nat.not_lt_zero j)⟩ <;> (rw [Z _ _ (by decide)]; rfl)
    · have : k = 0 ∨ k = 1 := by omega
      rcases this with rfl | rfl
      · refine ⟨by unfold ma_lt; decide, ?_, ?_, fun j hj => absurd hj (Nat.not_lt_zero j)⟩ <;> (rw [Z _ _ (by decide)]; rfl)
      · refine ⟨by unfold ma_lt; decide, ?_, ?_, fun j hj => absurd hj (Nat.not_lt_zero j)⟩ <;> (rw [Z _ _ (by decide)]; rfl)
    · rw [Z _ _ (by decide), mk_i_a (by decide)]; rfl
    · rw [Z _ _ (by decide), mk_i_a (by decide)]; rfl
    · rw [Z _ _ (by decide)]; rfl
    · rw [Z _ _ (by decide)]; rfl
    · rw [Z _ _ (by decide)]; rfl
theorem mk_MX {h : pb_HP} (Z : ∀ o k, o ≠ 214 → pb_I h o k = mk_i mk_I o k) : ma_MX h 0 mk_X := by
  refine ⟨fun k hk => ?_, fun k hk => ⟨?_, fun j _ hj => absurd hj (Nat.not_lt_zero j)⟩, fun k hk => ⟨?_, fun j _ hj => absurd hj (Nat.not_lt_zero j)⟩, fun s _ => ?_, fun j _ => ?_, ?_, ?_, ?_⟩
  · refine ⟨?_, ?_, fun m _ => ?_, fun m _ => ?_, fun m _ => ?_, fun m _ => ?_, fun m _ => ?_, fun m _ => ?_⟩ <;> (rw [Z _ _ (by decide), mk_i_a (by decide)]; rfl)
  · rw [Z _ _ (by decide), mk_i_a (by decide)]; rfl
  · rw [Z _ _ (by decide), mk_i_a (by decide)]; rfl
  · rw [Z _ _ (by decide), mk_i_a (by decide)]; rfl
  · rw [Z _ _ (by decide), mk_i_a (by decide)]; rfl
  · rw [Z _ _ (by decide), mk_i_a (by decide)]; rfl
  · rw [Z _ _ (by decide), mk_i_a (by decide)]; rfl
  · rw [Z _ _ (by decide)]; rfl
theorem mk_begin {N : Nat} (hN : 3000 < N) : ∃ h3 h6, f_123 N (pb_nw pb_h0) 0 = some h3 ∧ h3.1 = 217 ∧ f_167 (pb_nw h3) 217 = some h6 ∧ ma_INV h6 := by
  have G0 : mk_G pb_h0 0 [] [] := ⟨rfl, fun _ _ => rfl, fun _ _ => rfl, fun q hq => absurd hq (by simp), fun q hq => absurd hq (by simp)⟩
  obtain ⟨h3, e3, J, G3, m1, m2⟩ := mk_123_0 hN (mk_Gn G0)
  obtain ⟨h6, e6, G6⟩ := mk_167_217 (mk_Gn G3)
  have Z : ∀ o k, o ≠ 214 → pb_I h6 o k = mk_i mk_I o k := fun o k ho => by
    rw [G6.2.2.1]
    show (if o = 221 ∧ k = 0 then _ else mk_i J o k) = if o = 221 ∧ k = 0 then _ else mk_i mk_I0 o k
    rw [m2 o k ho]
    rfl
  refine ⟨h3, h6, e3, G3.1, e6, ⟨G6.1, fun o k z => (G6.2.1 o k).trans (mk_L3 z)⟩, ⟨mk_X, mk_GX0, mk_CX Z (.inl rfl), mk_MX Z⟩, fun i hi => ⟨false, mk_X, ?_, ?_, mk_GX0, mk_CX Z (by omega), fun z => absurd z (by decide)⟩, fun n hn => ?_⟩
  · rw [Z _ _ (by decide), mk_i_a (by decide)]; rfl
  · rw [Z _ _ (by decide), mk_i_a (by decide)]; rfl
  · rw [G6.2.2.1]
    show (if 214 = 221 ∧ n = 0 then _ else mk_i J 214 n) = _
    rw [if_neg (fun z => absurd z.1 (by decide))]
    exact m1 n hn
