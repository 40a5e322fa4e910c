/-! wings: the model's way, and the call -/
def wg_in (K : ma_K) : Nat := ma_fo (fun c a => if K 4 c = 0 then a else a ||| 2 ^ c) (K 0 1) 0
theorem wg_in_b (K : ma_K) (c : Nat) : ∀ n, (ma_fo (fun c a => if K 4 c = 0 then a else a ||| 2 ^ c) n 0).testBit c = decide (c < n ∧ K 4 c ≠ 0)
  | 0 => by
    show (0 : Nat).testBit c = _
    rw [Nat.zero_testBit]
    exact (decide_eq_false (fun q => absurd q.1 (Nat.not_lt_zero c))).symm
  | n + 1 => by
    have ih := wg_in_b K c n
    show (if K 4 n = 0 then ma_fo (fun c a => if K 4 c = 0 then a else a ||| 2 ^ c) n 0 else ma_fo (fun c a => if K 4 c = 0 then a else a ||| 2 ^ c) n 0 ||| 2 ^ n).testBit c = _
    rw [Bool.eq_iff_iff]
    by_cases k : K 4 n = 0
    · rw [if_pos k, ih]
      simp only [decide_eq_true_iff]
      constructor
      · intro q; exact ⟨by omega, q.2⟩
      · intro q
        refine ⟨?_, q.2⟩
        by_cases e : c = n
        · rw [e] at q; exact absurd k q.2
        · omega
    · rw [if_neg k, Nat.testBit_or, ih, Nat.testBit_two_pow]
      simp only [Bool.or_eq_true, decide_eq_true_iff]
      constructor
      · rintro (q | q)
        · exact ⟨by omega, q.2⟩
        · rw [← q]; exact ⟨by omega, k⟩
      · intro q
        by_cases e : c = n
        · exact .inr e.symm
        · exact .inl ⟨by omega, q.2⟩
theorem wg_in_lt {K : ma_K} (O : ma_OK K) : wg_in K < 64 := ma_fo_inv (g := fun c a => if K 4 c = 0 then a else a ||| 2 ^ c) (P := fun _ a => a < 64) (a0 := 0) (by decide) (K 0 1) (fun j a hj ha => by
  have := O.2.1
  split
  · exact ha
  · exact tx_or ha (by omega))
/-- how many are in, either way -/
theorem wg_cnt (K : ma_K) (n : Nat) : ∀ d, d ≤ n → ma_fo (fun c a => if K 4 c = 0 then a else a + 1) n 0 = ma_fo (fun c a => if K 4 c = 0 then a else a + 1) (n - d) 0 + wg_I K n d
  | 0, _ => rfl
  | d + 1, hd => by
    rw [wg_cnt K n d (by omega)]
    have e : n - d = (n - (d + 1)) + 1 := by omega
    have s : ma_fo (fun c a => if K 4 c = 0 then a else a + 1) (n - d) 0 = if K 4 (n - (d + 1)) = 0 then ma_fo (fun c a => if K 4 c = 0 then a else a + 1) (n - (d + 1)) 0 else ma_fo (fun c a => if K 4 c = 0 then a else a + 1) (n - (d + 1)) 0 + 1 := by rw [e]; rfl
    have i : wg_I K n (d + 1) = (if K 4 (n - (d + 1)) = 0 then 0 else 1) + wg_I K n d := rfl
    rw [s, i]
    split <;> omega
theorem wg_on {K : ma_K} (O : ma_OK K) : sp_on (wg_in K) = wg_I K (K 0 1) (K 0 1) := by
  have n6 := O.2.1
  have c := wg_cnt K (K 0 1) (K 0 1) (Nat.le_refl _)
  rw [Nat.sub_self] at c
  have c : ma_fo (fun c a => if K 4 c = 0 then a else a + 1) (K 0 1) 0 = 0 + wg_I K (K 0 1) (K 0 1) := c
  rw [Nat.zero_add] at c
  rw [← c]
  have g : ∀ d, ma_fo (fun k a => if (wg_in K).testBit k then a + 1 else a) (K 0 1 + d) 0 = ma_fo (fun c a => if K 4 c = 0 then a else a + 1) (K 0 1) 0 := by
    intro d
    induction d with
    | zero =>
      refine ma_fo_cong (K 0 1) (fun j a hj => ?_)
      unfold wg_in
      rw [wg_in_b]
      by_cases k : K 4 j = 0
      · rw [if_pos k, if_neg (by simp [k])]
      · rw [if_neg k, if_pos (by simp [k, hj])]
    | succ d ih =>
      show (if (wg_in K).testBit (K 0 1 + d) then ma_fo (fun k a => if (wg_in K).testBit k then a + 1 else a) (K 0 1 + d) 0 + 1 else ma_fo (fun k a => if (wg_in K).testBit k then a + 1 else a) (K 0 1 + d) 0) = _
      rw [if_neg (by unfold wg_in; rw [wg_in_b, decide_eq_true_iff]; omega), ih]
  have := g (6 - K 0 1)
  rw [show K 0 1 + (6 - K 0 1) = 6 by omega] at this
  exact this
theorem wg_I_le (K : ma_K) (n : Nat) : ∀ d, wg_I K n d ≤ d
  | 0 => Nat.le_refl _
  | d + 1 => by
    have := wg_I_le K n d
    show (if K 4 (n - (d + 1)) = 0 then 0 else 1) + wg_I K n d ≤ _
    split <;> omega
section
variable {h : pb_HP} {N m : Nat} {K : ma_K}
theorem m_288 (H : ma_H h) (M : ma_M h K) (O : ma_OK K) (hN : 3000 < N) : f_288 N h 217 = some (nI (wg_in K)) := by
  have n6 := O.2.1
  have hl : pb_wl (f_288_4s N h 217) N (0, 0) = some (nI (wg_in K)) := by
    refine ma_lq (fun j a => (nI a, nI j)) (fun c a => if K 4 c = 0 then a else a ||| 2 ^ c) (K 0 1) (by omega) rfl (fun j a hj => ?_) ?_
    · have e1 : ¬ nI (K 0 1) ≤ nI j := nI_ge hj (by omega)
      have b := (O.2.2.1 j).2.2.2.1
      simp only [f_288_4s, if_pos (mi_217 H), M.2.1, if_neg e1, mr_217_32 H, Option.bind_some, if_pos (mx_230 H (show j < 6 by omega)), nI_clamp (show j < 2 ^ 31 by omega), M.2.2.2.2.1 j (by omega), lC0 (show K 4 j < 2 ^ 31 by omega), ma_shl (show j < 31 by omega), fa_or, nI_1]
      by_cases k : K 4 j = 0
      · rw [if_pos k, if_pos k]
        have : nI a ||| 0 = nI a := by
          have := fa_or a 0
          rw [Nat.or_zero] at this
          exact this
        rw [this]
      · rw [if_neg k, if_neg k]
    · have e1 : nI (K 0 1) ≤ nI (K 0 1) := nI_le (Nat.le_refl _) (by omega)
      simp only [f_288_4s, if_pos (mi_217 H), M.2.1, if_pos e1]
      rfl
  unfold f_288
  rw [hl]
  rfl
theorem m_289 {x : Nat} (H : ma_H h) (e25 : pb_I h 217 25 = nI (K 0 1)) (O : ma_OK K) (hm : 0 < m) (hm6 : m ≤ 6) (hx : x < 2 ^ 30) (hN : 3000 < N) : ∃ g, f_289 N h 217 (nI x) (nI m) (nI (wg_in K)) = some g ∧ ma_fr [236] [] h g ∧ ∀ c, c < K 0 1 → pb_I g 236 c = nI (wg_y K (K 0 1) m x c) := by
  have n6 := O.2.1
  have i64 := wg_in_lt O
  have lp : ∃ g, pb_wl (f_289_11s N 217 (nI m) (nI (wg_in K))) N (nI x, mI (K 0 1), h) = some g ∧ (ma_fr [236] [] h g ∧ ∀ c, c < K 0 1 → pb_I g 236 c = nI (wg_y K (K 0 1) m x c)) := by
    refine ma_lh (fun j s => s.1 = nI (x / m ^ wg_I K (K 0 1) j) ∧ s.2.1 = mI (K 0 1 - j) ∧ ma_fr [236] [] h s.2.2 ∧ ∀ c, K 0 1 - j ≤ c → c < K 0 1 → pb_I s.2.2 236 c = nI (wg_y K (K 0 1) m x c)) _ (K 0 1) 0 N _ (by omega) (by omega) ⟨?_, rfl, ma_fr_r _ _ _, fun c p q => absurd q (by omega)⟩ ?_ ?_
    · show nI x = nI (x / 1)
      rw [Nat.div_one]
    · rintro j ⟨y1, y2, g⟩ _ hj ⟨h1, h2, fg, p⟩
      dsimp only at h1 h2 fg p
      subst h1 h2
      left
      have Hg := ma_H_fr H fg
      obtain ⟨c, ec⟩ : ∃ c, c = K 0 1 - (j + 1) := ⟨_, rfl⟩
      have e1 : mI (K 0 1 - j) = nI c := by rw [show K 0 1 - j = c + 1 by omega]; exact mI_s c
      have e2 : nI c + (-1) = mI c := by
        show nI c + (-1) = nI c - 1
        rw [Int32.sub_eq_add_neg]
      have tb : (wg_in K).testBit c = decide (c < K 0 1 ∧ K 4 c ≠ 0) := wg_in_b K c (K 0 1)
      have hs := ma_has (s := wg_in K) (k := c) (by omega) (by omega)
      have i1 : wg_I K (K 0 1) (j + 1) = (if K 4 c = 0 then 0 else 1) + wg_I K (K 0 1) j := by rw [ec]; rfl
      have nd : K 0 1 - (c + 1) = j := by omega
      have rl : x / m ^ wg_I K (K 0 1) j < 2 ^ 30 := Nat.lt_of_le_of_lt (Nat.div_le_self _ _) hx
      have cc : (nI c).toNatClampNeg = c := nI_clamp (by omega)
      have mm : ¬ nI m = 0 := fun z => by have := (lE0 (show m < 2 ^ 31 by omega)).mp z; omega
      rw [e1]
      by_cases k : K 4 c = 0
      · rw [if_pos k, Nat.zero_add] at i1
        have hs : f_169 (nI (wg_in K)) (nI c) = some 0 := by rw [hs, tb]; simp [k]
        have yc : wg_y K (K 0 1) m x c = 6 := by unfold wg_y; rw [if_pos k]
        refine ⟨(nI (x / m ^ wg_I K (K 0 1) j), mI c, pb_pI g 236 c 6), ?_, ?_, ?_, ma_fr_pI fg (.inl (by decide)) _, fun d p1 p2 => ?_⟩
        · simp only [f_289_11s, if_neg (nI_pos (show c < 2 ^ 31 by omega)), if_pos (mi_217 Hg), mr_217_43 Hg, Option.bind_some, hs, if_true, f_289_40, if_pos (mx_236 Hg (show c < 6 by omega)), cc, e2]
        · dsimp only; rw [i1]
        · dsimp only; rw [ec]
        · show pb_I (pb_pI g 236 c 6) 236 d = _
          rw [ma_Ik, if_pos rfl]
          by_cases z : d = c
          · rw [if_pos z, z, yc]; rfl
          · rw [if_neg z]; exact p d (by omega) p2
      · rw [if_neg k] at i1
        have hs : f_169 (nI (wg_in K)) (nI c) = some 1 := by rw [hs, tb]; simp [k]; omega
        have dv : nI (x / m ^ wg_I K (K 0 1) j) / nI m = nI (x / m ^ wg_I K (K 0 1) j / m) := pk_div (by omega) (by omega) (by omega)
        have md : nI (x / m ^ wg_I K (K 0 1) j) - nI (x / m ^ wg_I K (K 0 1) j / m) * nI m = nI (wg_y K (K 0 1) m x c) := by
          have le : x / m ^ wg_I K (K 0 1) j / m * m ≤ x / m ^ wg_I K (K 0 1) j := Nat.div_mul_le_self _ _
          rw [pk_mul, pk_sub le]
          unfold wg_y
          rw [if_neg k, nd]
          congr 1
          have := Nat.div_add_mod (x / m ^ wg_I K (K 0 1) j) m
          rw [Nat.mul_comm] at this
          omega
        refine ⟨(nI (x / m ^ wg_I K (K 0 1) j / m), mI c, pb_pI g 236 c (nI (wg_y K (K 0 1) m x c))), ?_, ?_, ?_, ma_fr_pI fg (.inl (by decide)) _, fun d p1 p2 => ?_⟩
        · simp only [f_289_11s, if_neg (nI_pos (show c < 2 ^ 31 by omega)), if_pos (mi_217 Hg), mr_217_43 Hg, Option.bind_some, hs, i10, if_false, if_pos mm, md, dv, f_289_40, if_pos (mx_236 Hg (show c < 6 by omega)), cc, e2]
        · dsimp only
          rw [i1, Nat.add_comm, Nat.pow_succ, Nat.div_div_eq_div_mul]
        · dsimp only; rw [ec]
        · show pb_I (pb_pI g 236 c _) 236 d = _
          rw [ma_Ik, if_pos rfl]
          by_cases z : d = c
          · rw [if_pos z, z]
          · rw [if_neg z]; exact p d (by omega) p2
    · rintro ⟨y1, y2, g⟩ ⟨h1, h2, fg, p⟩
      dsimp only at h1 h2 fg p
      subst h1 h2
      refine ⟨g, ?_, fg, fun c hc => p c (by omega) hc⟩
      rw [Nat.sub_self]
      have e0 : mI 0 < 0 := by decide
      simp only [f_289_11s, if_pos e0]
  obtain ⟨g, a1, a2⟩ := lp
  refine ⟨g, ?_, a2⟩
  have e1 : nI (K 0 1) - 1 = mI (K 0 1) := rfl
  unfold f_289
  rw [if_pos (mi_217 H), e25, e1, a1]
  rfl
theorem m_290i {a : Nat} {w : Nat → Nat} (H : ma_H h) (M : ma_M h K) (O : ma_OK K) (ha : a < K 0 1) (row : ∀ c, c < K 0 1 → pb_I h 236 c = nI (w c) ∧ w c ≤ 6) (hN : 3000 < N) : pb_wl (f_290_12s N h 217 (nI a)) N 0 = some (if ma_fi (fun b => decide (w a = w b) && (decide (w a < 6) && (K 5 a &&& K 5 b != 0))) a 0 < a then .inl 0 else .inr ()) := by
  have n6 := O.2.1
  have f := ma_fi_sp (fun b => decide (w a = w b) && (decide (w a < 6) && (K 5 a &&& K 5 b != 0))) a 0
  obtain ⟨r, hr⟩ : ∃ r, r = ma_fi (fun b => decide (w a = w b) && (decide (w a < 6) && (K 5 a &&& K 5 b != 0))) a 0 := ⟨_, rfl⟩
  rw [← hr] at f ⊢
  have st : ∀ j, j < a → f_290_12s N h 217 (nI a) (nI j) = if (decide (w a = w j) && (decide (w a < 6) && (K 5 a &&& K 5 j != 0))) = true then some (.inr (.inl 0)) else some (.inl (nI (j + 1))) := fun j hj => by
    have ra := row a ha
    have rj := row j (by omega)
    have b3 : K 5 a &&& K 5 j < 2 ^ 31 := Nat.lt_of_le_of_lt Nat.and_le_left (by have := (O.2.2.1 a).2.2.2.2.1; omega)
    simp only [f_290_12s, if_neg (nI_ge hj (show a < 2 ^ 31 by omega)), if_pos (mi_217 H), mr_217_43 H, Option.bind_some, if_pos (mx_236 H (show a < 6 by omega)), if_pos (mx_236 H (show j < 6 by omega)), nI_clamp (show j < 2 ^ 31 by omega), nI_clamp (show a < 2 ^ 31 by omega), ra.1, rj.1, nI_eq (show w a < 2 ^ 31 by omega) (show w j < 2 ^ 31 by omega), lA6 (show w a < 2 ^ 31 by omega), mr_217_33 H, if_pos (mx_231 H (show a < 6 by omega)), if_pos (mx_231 H (show j < 6 by omega)), M.2.2.2.2.2.1 a (by omega), M.2.2.2.2.2.1 j (by omega), fa_and, lE0 b3, nI_1]
    by_cases c1 : w a = w j
    · by_cases c2 : w a < 6
      · by_cases c3 : K 5 a &&& K 5 j = 0
        · rw [if_neg (not_not_intro c1), if_neg (by omega), if_pos c3, if_neg (by simp [c3])]
        · rw [if_neg (not_not_intro c1), if_neg (by omega), if_neg c3, if_pos (by simp [← c1, c2, c3])]
      · rw [if_neg (not_not_intro c1), if_pos (by omega), if_neg (by simp [← c1, c2])]
    · rw [if_pos c1, if_neg (by simp [c1])]
  show pb_wl (f_290_12s N h 217 (nI a)) N (nI 0) = _
  refine ma_wl (fun j => nI j) r N 0 (by omega) (fun j x y => ?_) ?_
  · rw [st j (by omega), if_neg (by rw [f.2.2.1 j (by omega) (by omega)]; decide)]
  · rw [Nat.zero_add]
    by_cases z : r < a
    · rw [st r z, if_pos (f.2.2.2 (by omega)), if_pos z]
    · have e : nI a ≤ nI r := nI_le (by omega) (by omega)
      simp only [f_290_12s, if_pos e, if_neg z]
theorem m_290 {w : Nat → Nat} (H : ma_H h) (M : ma_M h K) (O : ma_OK K) (row : ∀ c, c < K 0 1 → pb_I h 236 c = nI (w c) ∧ w c ≤ 6) (hN : 3000 < N) : f_290 N h 217 = some (if wg_cb K w (K 0 1) then 1 else 0) := by
  have n6 := O.2.1
  have f := ma_fi_sp (fun a => decide (ma_fi (fun b => decide (w a = w b) && (decide (w a < 6) && (K 5 a &&& K 5 b != 0))) a 0 < a)) (K 0 1) 0
  obtain ⟨r, hr⟩ : ∃ r, r = ma_fi (fun a => decide (ma_fi (fun b => decide (w a = w b) && (decide (w a < 6) && (K 5 a &&& K 5 b != 0))) a 0 < a)) (K 0 1) 0 := ⟨_, rfl⟩
  rw [← hr] at f
  have st : ∀ j, j < K 0 1 → f_290_2s N h 217 (nI j) = if ma_fi (fun b => decide (w j = w b) && (decide (w j < 6) && (K 5 j &&& K 5 b != 0))) j 0 < j then some (.inr (.inl 0)) else some (.inl (nI (j + 1))) := fun j hj => by
    have e1 : ¬ nI (K 0 1) ≤ nI j := nI_ge hj (by omega)
    unfold f_290_2s
    rw [if_pos (mi_217 H), M.2.1, if_neg e1, m_290i (N := N) H M O hj row hN, Option.bind_some]
    by_cases z : ma_fi (fun b => decide (w j = w b) && (decide (w j < 6) && (K 5 j &&& K 5 b != 0))) j 0 < j
    · rw [if_pos z, if_pos z]
    · rw [if_neg z, if_neg z, nI_1]
  have hl : pb_wl (f_290_2s N h 217) N (nI 0) = some (if r < K 0 1 then .inl 0 else .inr ()) := by
    refine ma_wl (fun j => nI j) r N 0 (by omega) (fun j x y => ?_) ?_
    · rw [st j (by omega), if_neg (of_decide_eq_false (f.2.2.1 j (by omega) (by omega)))]
    · rw [Nat.zero_add]
      by_cases z : r < K 0 1
      · rw [st r z, if_pos (of_decide_eq_true (f.2.2.2 (by omega))), if_pos z]
      · have e : nI (K 0 1) ≤ nI r := nI_le (by omega) (by omega)
        simp only [f_290_2s, if_pos (mi_217 H), M.2.1, if_pos e, if_neg z]
  have hl : pb_wl (f_290_2s N h 217) N 0 = some (if r < K 0 1 then .inl 0 else .inr ()) := hl
  unfold f_290 wg_cb
  rw [hl, ← hr, Option.bind_some]
  by_cases z : r < K 0 1
  · rw [if_pos z, if_neg (by rw [decide_eq_true_iff]; omega)]
  · rw [if_neg z, if_pos (by rw [decide_eq_true_iff]; omega)]
end
