/-! What a deed does, on both sides. -/
section
variable {h : pb_HP} {K : ma_K} {N c : Nat}
theorem ma_V_o (V : ma_V h c K) {o : Nat} (ho : o < c ∨ c + 6 < o) (k : Nat) (v : Int32) : ma_V (pb_pI h o k v) c K := ma_V_e V (fun p a b => by rw [ma_I_pI, if_neg (by omega)])
theorem ma_M_o (M : ma_M h K) {o k : Nat} (ho : (o = 217 ∧ k ≠ 24 ∧ k ≠ 25) ∨ o < 217 ∨ 232 < o) (v : Int32) : ma_M (pb_pI h o k v) K := by
  unfold ma_M at M ⊢
  simp (disch := omega) only [ma_Ik, if_neg]
  rcases ho with q | q
  · simp (disch := omega) only [q.1, if_neg, ite_self, if_true]; exact M
  · simp (disch := omega) only [if_neg]; exact M
theorem ma_V_p2 (V : ma_V h c K) (a v : Nat) : ma_V (pb_pI h (c + 2) a (nI v)) c (sp_up K 2 a v) := by
  refine ⟨V.1, ?_, ?_, fun m hm => ?_, fun m hm => ?_, fun m hm => ?_, fun m hm => ?_, fun m hm => ?_, fun m hm => ?_⟩
  · rw [ma_Ik, if_neg (by omega)]; exact V.2.1
  · rw [ma_Ik, if_neg (by omega)]; exact V.2.2.1
  · rw [ma_Ik, if_neg (by omega), sp_up_n (.inl (by decide))]; exact V.2.2.2.1 m hm
  · rw [ma_Ik, if_pos rfl]
    by_cases e : m = a
    · rw [if_pos e, e, sp_up_s]
    · rw [if_neg e, sp_up_n (.inr e)]; exact V.2.2.2.2.1 m hm
  · rw [ma_Ik, if_neg (by omega), sp_up_n (.inl (by decide))]; exact V.2.2.2.2.2.1 m hm
  · rw [ma_Ik, if_neg (by omega), sp_up_n (.inl (by decide))]; exact V.2.2.2.2.2.2.1 m hm
  · rw [ma_Ik, if_neg (by omega), sp_up_n (.inl (by decide))]; exact V.2.2.2.2.2.2.2.1 m hm
  · rw [ma_Ik, if_neg (by omega), sp_up_n (.inl (by decide))]; exact V.2.2.2.2.2.2.2.2 m hm
theorem ma_V_p4 (V : ma_V h c K) (a v : Nat) : ma_V (pb_pI h (c + 4) a (nI v)) c (sp_up K 4 a v) := by
  refine ⟨V.1, ?_, ?_, fun m hm => ?_, fun m hm => ?_, fun m hm => ?_, fun m hm => ?_, fun m hm => ?_, fun m hm => ?_⟩
  · rw [ma_Ik, if_neg (by omega)]; exact V.2.1
  · rw [ma_Ik, if_neg (by omega)]; exact V.2.2.1
  · rw [ma_Ik, if_neg (by omega), sp_up_n (.inl (by decide))]; exact V.2.2.2.1 m hm
  · rw [ma_Ik, if_neg (by omega), sp_up_n (.inl (by decide))]; exact V.2.2.2.2.1 m hm
  · rw [ma_Ik, if_neg (by omega), sp_up_n (.inl (by decide))]; exact V.2.2.2.2.2.1 m hm
  · rw [ma_Ik, if_pos rfl]
    by_cases e : m = a
    · rw [if_pos e, e, sp_up_s]
    · rw [if_neg e, sp_up_n (.inr e)]; exact V.2.2.2.2.2.2.1 m hm
  · rw [ma_Ik, if_neg (by omega), sp_up_n (.inl (by decide))]; exact V.2.2.2.2.2.2.2.1 m hm
  · rw [ma_Ik, if_neg (by omega), sp_up_n (.inl (by decide))]; exact V.2.2.2.2.2.2.2.2 m hm
theorem ma_V_p5 (V : ma_V h c K) (a v : Nat) : ma_V (pb_pI h (c + 5) a (nI v)) c (sp_up K 5 a v) := by
  refine ⟨V.1, ?_, ?_, fun m hm => ?_, fun m hm => ?_, fun m hm => ?_, fun m hm => ?_, fun m hm => ?_, fun m hm => ?_⟩
  · rw [ma_Ik, if_neg (by omega)]; exact V.2.1
  · rw [ma_Ik, if_neg (by omega)]; exact V.2.2.1
  · rw [ma_Ik, if_neg (by omega), sp_up_n (.inl (by decide))]; exact V.2.2.2.1 m hm
  · rw [ma_Ik, if_neg (by omega), sp_up_n (.inl (by decide))]; exact V.2.2.2.2.1 m hm
  · rw [ma_Ik, if_neg (by omega), sp_up_n (.inl (by decide))]; exact V.2.2.2.2.2.1 m hm
  · rw [ma_Ik, if_neg (by omega), sp_up_n (.inl (by decide))]; exact V.2.2.2.2.2.2.1 m hm
  · rw [ma_Ik, if_pos rfl]
    by_cases e : m = a
    · rw [if_pos e, e, sp_up_s]
    · rw [if_neg e, sp_up_n (.inr e)]; exact V.2.2.2.2.2.2.2.1 m hm
  · rw [ma_Ik, if_neg (by omega), sp_up_n (.inl (by decide))]; exact V.2.2.2.2.2.2.2.2 m hm
theorem ma_V_p6 (V : ma_V h c K) (a v : Nat) : ma_V (pb_pI h (c + 6) a (nI v)) c (sp_up K 6 a v) := by
  refine ⟨V.1, ?_, ?_, fun m hm => ?_, fun m hm => ?_, fun m hm => ?_, fun m hm => ?_, fun m hm => ?_, fun m hm => ?_⟩
  · rw [ma_Ik, if_neg (by omega)]; exact V.2.1
  · rw [ma_Ik, if_neg (by omega)]; exact V.2.2.1
  · rw [ma_Ik, if_neg (by omega), sp_up_n (.inl (by decide))]; exact V.2.2.2.1 m hm
  · rw [ma_Ik, if_neg (by omega), sp_up_n (.inl (by decide))]; exact V.2.2.2.2.1 m hm
  · rw [ma_Ik, if_neg (by omega), sp_up_n (.inl (by decide))]; exact V.2.2.2.2.2.1 m hm
  · rw [ma_Ik, if_neg (by omega), sp_up_n (.inl (by decide))]; exact V.2.2.2.2.2.2.1 m hm
  · rw [ma_Ik, if_neg (by omega), sp_up_n (.inl (by decide))]; exact V.2.2.2.2.2.2.2.1 m hm
  · rw [ma_Ik, if_pos rfl]
    by_cases e : m = a
    · rw [if_pos e, e, sp_up_s]
    · rw [if_neg e, sp_up_n (.inr e)]; exact V.2.2.2.2.2.2.2.2 m hm
theorem ma_M_p2 (M : ma_M h K) (a v : Nat) : ma_M (pb_pI h 228 a (nI v)) (sp_up K 2 a v) := by
  refine ⟨?_, ?_, fun m hm => ?_, fun m hm => ?_, fun m hm => ?_, fun m hm => ?_, fun m hm => ?_⟩
  · rw [ma_Ik, if_neg (by decide)]; exact M.1
  · rw [ma_Ik, if_neg (by decide)]; exact M.2.1
  · rw [ma_Ik, if_pos rfl]
    by_cases e : m = a
    · rw [if_pos e, e, sp_up_s]
    · rw [if_neg e, sp_up_n (.inr e)]; exact M.2.2.1 m hm
  · rw [ma_Ik, if_neg (by decide), sp_up_n (.inl (by decide))]; exact M.2.2.2.1 m hm
  · rw [ma_Ik, if_neg (by decide), sp_up_n (.inl (by decide))]; exact M.2.2.2.2.1 m hm
  · rw [ma_Ik, if_neg (by decide), sp_up_n (.inl (by decide))]; exact M.2.2.2.2.2.1 m hm
  · rw [ma_Ik, if_neg (by decide), sp_up_n (.inl (by decide))]; exact M.2.2.2.2.2.2 m hm
theorem ma_M_p4 (M : ma_M h K) (a v : Nat) : ma_M (pb_pI h 230 a (nI v)) (sp_up K 4 a v) := by
  refine ⟨?_, ?_, fun m hm => ?_, fun m hm => ?_, fun m hm => ?_, fun m hm => ?_, fun m hm => ?_⟩
  · rw [ma_Ik, if_neg (by decide)]; exact M.1
  · rw [ma_Ik, if_neg (by decide)]; exact M.2.1
  · rw [ma_Ik, if_neg (by decide), sp_up_n (.inl (by decide))]; exact M.2.2.1 m hm
  · rw [ma_Ik, if_neg (by decide), sp_up_n (.inl (by decide))]; exact M.2.2.2.1 m hm
  · rw [ma_Ik, if_pos rfl]
    by_cases e : m = a
    · rw [if_pos e, e, sp_up_s]
    · rw [if_neg e, sp_up_n (.inr e)]; exact M.2.2.2.2.1 m hm
  · rw [ma_Ik, if_neg (by decide), sp_up_n (.inl (by decide))]; exact M.2.2.2.2.2.1 m hm
  · rw [ma_Ik, if_neg (by decide), sp_up_n (.inl (by decide))]; exact M.2.2.2.2.2.2 m hm
theorem ma_M_p5 (M : ma_M h K) (a v : Nat) : ma_M (pb_pI h 231 a (nI v)) (sp_up K 5 a v) := by
  refine ⟨?_, ?_, fun m hm => ?_, fun m hm => ?_, fun m hm => ?_, fun m hm => ?_, fun m hm => ?_⟩
  · rw [ma_Ik, if_neg (by decide)]; exact M.1
  · rw [ma_Ik, if_neg (by decide)]; exact M.2.1
  · rw [ma_Ik, if_neg (by decide), sp_up_n (.inl (by decide))]; exact M.2.2.1 m hm
  · rw [ma_Ik, if_neg (by decide), sp_up_n (.inl (by decide))]; exact M.2.2.2.1 m hm
  · rw [ma_Ik, if_neg (by decide), sp_up_n (.inl (by decide))]; exact M.2.2.2.2.1 m hm
  · rw [ma_Ik, if_pos rfl]
    by_cases e : m = a
    · rw [if_pos e, e, sp_up_s]
    · rw [if_neg e, sp_up_n (.inr e)]; exact M.2.2.2.2.2.1 m hm
  · rw [ma_Ik, if_neg (by decide), sp_up_n (.inl (by decide))]; exact M.2.2.2.2.2.2 m hm
theorem ma_M_p6 (M : ma_M h K) (a v : Nat) : ma_M (pb_pI h 232 a (nI v)) (sp_up K 6 a v) := by
  refine ⟨?_, ?_, fun m hm => ?_, fun m hm => ?_, fun m hm => ?_, fun m hm => ?_, fun m hm => ?_⟩
  · rw [ma_Ik, if_neg (by decide)]; exact M.1
  · rw [ma_Ik, if_neg (by decide)]; exact M.2.1
  · rw [ma_Ik, if_neg (by decide), sp_up_n (.inl (by decide))]; exact M.2.2.1 m hm
  · rw [ma_Ik, if_neg (by decide), sp_up_n (.inl (by decide))]; exact M.2.2.2.1 m hm
  · rw [ma_Ik, if_neg (by decide), sp_up_n (.inl (by decide))]; exact M.2.2.2.2.1 m hm
  · rw [ma_Ik, if_neg (by decide), sp_up_n (.inl (by decide))]; exact M.2.2.2.2.2.1 m hm
  · rw [ma_Ik, if_pos rfl]
    by_cases e : m = a
    · rw [if_pos e, e, sp_up_s]
    · rw [if_neg e, sp_up_n (.inr e)]; exact M.2.2.2.2.2.2 m hm
theorem ma_ct201 : ma_ct 201 := by unfold ma_ct; decide
theorem ma_pl208 : ma_pl 208 := by unfold ma_pl; decide
/-- a year goes by for one child more -/
theorem ma_V_yr {j : Nat} (V : ma_V h c (sp_yr K j)) : ma_V (pb_pI (pb_pI h (c + 3) j (nI (min 99 (K 3 j + 1)))) (c + 4) j (nI (K 4 j - 1))) c (sp_yr K (j + 1)) := by
  refine ⟨V.1, ?_, ?_, fun m hm => ?_, fun m hm => ?_, fun m hm => ?_, fun m hm => ?_, fun m hm => ?_, fun m hm => ?_⟩
  · simp (disch := omega) only [ma_Ik, if_neg]; exact V.2.1
  · simp (disch := omega) only [ma_Ik, if_neg]; exact V.2.2.1
  · simp (disch := omega) only [ma_Ik, if_neg]; exact V.2.2.2.1 m hm
  · simp (disch := omega) only [ma_Ik, if_neg]; exact V.2.2.2.2.1 m hm
  · rw [ma_Ik, if_neg (by omega), ma_Ik, if_pos rfl]
    have e0 := V.2.2.2.2.2.1 m hm
    show _ = nI (if 3 = 3 ∧ m < j + 1 then min 99 (K 3 m + 1) else if 3 = 4 ∧ m < j + 1 then K 4 m - 1 else K 3 m)
    by_cases e : m = j
    · rw [if_pos e, if_pos (by omega), e]
    · rw [if_neg e, e0]
      show nI (if 3 = 3 ∧ m < j then min 99 (K 3 m + 1) else if 3 = 4 ∧ m < j then K 4 m - 1 else K 3 m) = _
      by_cases l : m < j
      · rw [if_pos ⟨rfl, l⟩, if_pos ⟨rfl, by omega⟩]
      · rw [if_neg (by omega), if_neg (by omega), if_neg (by omega), if_neg (by omega)]
  · rw [ma_Ik, if_pos rfl]
    have e0 := V.2.2.2.2.2.2.1 m hm
    show _ = nI (if 4 = 3 ∧ m < j + 1 then min 99 (K 3 m + 1) else if 4 = 4 ∧ m < j + 1 then K 4 m - 1 else K 4 m)
    by_cases e : m = j
    · rw [if_pos e, if_neg (by omega), if_pos (by omega), e]
    · rw [if_neg e, ma_Ik, if_neg (by omega), e0]
      show nI (if 4 = 3 ∧ m < j then min 99 (K 3 m + 1) else if 4 = 4 ∧ m < j then K 4 m - 1 else K 4 m) = _
      by_cases l : m < j
      · rw [if_neg (by omega), if_pos ⟨rfl, l⟩, if_neg (by omega), if_pos ⟨rfl, by omega⟩]
      · rw [if_neg (by omega), if_neg (by omega), if_neg (by omega), if_neg (by omega)]
  · simp (disch := omega) only [ma_Ik, if_neg]; exact V.2.2.2.2.2.2.2.1 m hm
  · simp (disch := omega) only [ma_Ik, if_neg]; exact V.2.2.2.2.2.2.2.2 m hm
theorem ma_M_yr {j : Nat} (M : ma_M h (sp_yr K j)) : ma_M (pb_pI (pb_pI h 229 j (nI (min 99 (K 3 j + 1)))) 230 j (nI (K 4 j - 1))) (sp_yr K (j + 1)) := by
  refine ⟨?_, ?_, fun m hm => ?_, fun m hm => ?_, fun m hm => ?_, fun m hm => ?_, fun m hm => ?_⟩
  · simp (disch := omega) only [ma_Ik, if_neg]; exact M.1
  · simp (disch := omega) only [ma_Ik, if_neg]; exact M.2.1
  · simp (disch := omega) only [ma_Ik, if_neg]; exact M.2.2.1 m hm
  · rw [ma_Ik, if_neg (by omega), ma_Ik, if_pos rfl]
    have e0 := M.2.2.2.1 m hm
    show _ = nI (if 3 = 3 ∧ m < j + 1 then min 99 (K 3 m + 1) else if 3 = 4 ∧ m < j + 1 then K 4 m - 1 else K 3 m)
    by_cases e : m = j
    · rw [if_pos e, if_pos (by omega), e]
    · rw [if_neg e, e0]
      show nI (if 3 = 3 ∧ m < j then min 99 (K 3 m + 1) else if 3 = 4 ∧ m < j then K 4 m - 1 else K 3 m) = _
      by_cases l : m < j
      · rw [if_pos ⟨rfl, l⟩, if_pos ⟨rfl, by omega⟩]
      · rw [if_neg (by omega), if_neg (by omega), if_neg (by omega), if_neg (by omega)]
  · rw [ma_Ik, if_pos rfl]
    have e0 := M.2.2.2.2.1 m hm
    show _ = nI (if 4 = 3 ∧ m < j + 1 then min 99 (K 3 m + 1) else if 4 = 4 ∧ m < j + 1 then K 4 m - 1 else K 4 m)
    by_cases e : m = j
    · rw [if_pos e, if_neg (by omega), if_pos (by omega), e]
    · rw [if_neg e, ma_Ik, if_neg (by omega), e0]
      show nI (if 4 = 3 ∧ m < j then min 99 (K 3 m + 1) else if 4 = 4 ∧ m < j then K 4 m - 1 else K 4 m) = _
      by_cases l : m < j
      · rw [if_neg (by omega), if_pos ⟨rfl, l⟩, if_neg (by omega), if_pos ⟨rfl, by omega⟩]
      · rw [if_neg (by omega), if_neg (by omega), if_neg (by omega), if_neg (by omega)]
  · simp (disch := omega) only [ma_Ik, if_neg]; exact M.2.2.2.2.2.1 m hm
  · simp (disch := omega) only [ma_Ik, if_neg]; exact M.2.2.2.2.2.2 m hm
theorem sp_yr_0 (K : ma_K) : sp_yr K 0 = K := by
  funext i k
  show (if i = 3 ∧ k < 0 then _ else if i = 4 ∧ k < 0 then _ else K i k) = K i k
  rw [if_neg (by omega), if_neg (by omega)]
theorem ma_dec {v : Nat} (hv : v < 2 ^ 30) : (if (0 : Int32) < nI v - 1 then nI v - 1 else 0) = nI (v - 1) := by
  cases v with
  | zero => rfl
  | succ v =>
    rw [nI_pred, Nat.add_sub_cancel]
    split
    · rfl
    · rename_i q
      rw [lB0 (by omega)] at q
      have : v = 0 := by omega
      rw [this]; rfl
theorem c_36 {S : ma_S} (H : ma_H h) (C : ma_C h S) (O : ma_SO S) (hN : 3000 < N) (hy : S.2.1 < 99) : ∃ g, f_36 N h 200 = some (1, g) ∧ ma_fr [204, 205] [(200, 4)] h g ∧ ma_C g (sp_yr S.1 (S.1 0 1), S.2.1 + 1, S.2.2) := by
  obtain ⟨V, c1, c2, c3, c4⟩ := C
  have hch := O.1.2.1
  have H1 : ma_H (pb_pI h 200 4 (nI (S.2.1 + 1))) := H
  have hl : ∃ e, pb_wl (f_36_23s N 200) N (0, pb_pI h 200 4 (nI (S.2.1 + 1))) = some e ∧ (ma_fr [204, 205] [] (pb_pI h 200 4 (nI (S.2.1 + 1))) e ∧ ma_V e 201 (sp_yr S.1 (S.1 0 1))) := by
    refine ma_lh (fun j s => s.1 = nI j ∧ ma_fr [204, 205] [] (pb_pI h 200 4 (nI (S.2.1 + 1))) s.2 ∧ ma_V s.2 201 (sp_yr S.1 j)) _ (S.1 0 1) 0 N _ (by omega) (by omega) ⟨rfl, ma_fr_r _ _ _, by rw [sp_yr_0]; exact ma_V_o V (by omega) _ _⟩ ?_ ?_
    · rintro j ⟨i, g⟩ _ hj ⟨hi, hf, hV⟩
      dsimp only at hi hf hV
      subst hi
      left
      have H2 := ma_H_fr H1 hf
      have Vc := hV.1
      have n1 : pb_I g 201 1 = nI (S.1 0 1) := hV.2.2.1
      have b3 := O.1.2.2.1 j
      have x3 : pb_I g 204 j = nI (S.1 3 j) := by
        have := hV.2.2.2.2.2.1 j hj
        rw [this]
        show nI (if 3 = 3 ∧ j < j then _ else if 3 = 4 ∧ j < j then _ else S.1 3 j) = _
        rw [if_neg (by omega), if_neg (by omega)]
      have x4 : pb_I g 205 j = nI (S.1 4 j) := by
        have := hV.2.2.2.2.2.2.1 j hj
        rw [this]
        show nI (if 4 = 3 ∧ j < j then _ else if 4 = 4 ∧ j < j then _ else S.1 4 j) = _
        rw [if_neg (by omega), if_neg (by omega)]
      have y3 : (if nI (S.1 3 j) + 1 < 99 then nI (S.1 3 j) + 1 else 99) = nI (min 99 (S.1 3 j + 1)) := by
        rw [nI_1]
        by_cases q : S.1 3 j + 1 < 99
        · rw [if_pos ((lD99 (by omega)).mpr q), Nat.min_eq_right (by omega)]
        · rw [if_neg ((not_congr (lD99 (by omega))).mpr q), Nat.min_eq_left (by omega)]; rfl
      have y4 := ma_dec (v := S.1 4 j) (by omega)
      refine ⟨(nI (j + 1), pb_pI (pb_pI g 204 j (nI (min 99 (S.1 3 j + 1)))) 205 j (nI (S.1 4 j - 1))), ?_, rfl, ma_fr_pI (ma_fr_pI hf (.inl (by decide)) _) (.inl (by decide)) _, ma_V_yr hV⟩
      unfold f_36_23s
      rw [if_pos (mi_200 H2), mr_200_0 H2, Option.bind_some, if_pos (mi_201 H2), n1]
      dsimp only
      rw [if_neg (nI_ge hj (by omega)), mr_201_4 H2, Option.bind_some, if_pos (mx_204 H2 (by omega)), mr_201_5 H2, Option.bind_some, if_pos (mx_205 H2 (by omega)), nI_clamp (by omega), x3, y3]
      have x5 : pb_I (pb_pI g 204 j (nI (min 99 (S.1 3 j + 1)))) 205 j = nI (S.1 4 j) := by rw [ma_Ik, if_neg (by decide)]; exact x4
      unfold pb_hb
      rw [x5, y4, nI_1]
    · rintro ⟨i, g⟩ ⟨hi, hf, hV⟩
      dsimp only at hi hf hV
      subst hi
      have H2 := ma_H_fr H1 hf
      have n1 : pb_I g 201 1 = nI (S.1 0 1) := hV.2.2.1
      refine ⟨g, ?_, hf, hV⟩
      unfold f_36_23s
      rw [if_pos (mi_200 H2), mr_200_0 H2, Option.bind_some, if_pos (mi_201 H2), n1]
      dsimp only
      rw [if_pos (nI_le (Nat.le_refl _) (by omega))]
  obtain ⟨g, e1, f1, V1⟩ := hl
  have ff : ma_fr [204, 205] [(200, 4)] h g := ma_fr_t (ma_fr_pI (ma_fr_r _ _ _) (.inr (by decide)) _) (ma_fr_w f1 (by decide) (by decide))
  have eo : pb_I g 200 = pb_I (pb_pI h 200 4 (nI (S.2.1 + 1))) 200 := ma_fr_o f1 (by decide) (by decide)
  refine ⟨g, ?_, ff, V1, ?_, ?_, ?_, ?_⟩
  · unfold f_36
    rw [if_pos (mi_200 H), c1, if_pos ((lD99 (by omega)).mpr hy), nI_1, e1]
    rfl
  · rw [eo]; rfl
  · rw [eo]; exact c2
  · rw [eo]; exact c3
  · rw [eo]; exact c4
theorem m_217 {S : ma_S} (H : ma_H h) (D : ma_D h S) (O : ma_SO S) (hN : 3000 < N) (hy : S.2.1 < 99) : ∃ g, f_217 N h 217 = some (1, g) ∧ ma_fr [229, 230] [(217, 26)] h g ∧ ma_D g (sp_yr S.1 (S.1 0 1), S.2.1 + 1, S.2.2) := by
  obtain ⟨M, c1, c2, c3, c4, K0, F, FK⟩ := D
  have hch := O.1.2.1
  have hl : ∃ e, pb_wl (f_217_13s N 217) N (0, h) = some e ∧ (ma_fr [229, 230] [] h e ∧ ma_M e (sp_yr S.1 (S.1 0 1))) := by
    refine ma_lh (fun j s => s.1 = nI j ∧ ma_fr [229, 230] [] h s.2 ∧ ma_M s.2 (sp_yr S.1 j)) _ (S.1 0 1) 0 N _ (by omega) (by omega) ⟨rfl, ma_fr_r _ _ _, by rw [sp_yr_0]; exact M⟩ ?_ ?_
    · rintro j ⟨i, g⟩ _ hj ⟨hi, hf, hM⟩
      dsimp only at hi hf hM
      subst hi
      left
      have H2 := ma_H_fr H hf
      have n1 : pb_I g 217 25 = nI (S.1 0 1) := hM.2.1
      have b3 := O.1.2.2.1 j
      have x3 : pb_I g 229 j = nI (S.1 3 j) := by
        have := hM.2.2.2.1 j (by omega)
        rw [this]
        show nI (if 3 = 3 ∧ j < j then _ else if 3 = 4 ∧ j < j then _ else S.1 3 j) = _
        rw [if_neg (by omega), if_neg (by omega)]
      have x4 : pb_I g 230 j = nI (S.1 4 j) := by
        have := hM.2.2.2.2.1 j (by omega)
        rw [this]
        show nI (if 4 = 3 ∧ j < j then _ else if 4 = 4 ∧ j < j then _ else S.1 4 j) = _
        rw [if_neg (by omega), if_neg (by omega)]
      have y3 : f_171 99 (nI (S.1 3 j + 1)) = some (nI (min 99 (S.1 3 j + 1))) := m_171 (a := 99) (by decide) (by omega)
      refine ⟨(nI (j + 1), pb_pI (pb_pI g 229 j (nI (min 99 (S.1 3 j + 1)))) 230 j (nI (S.1 4 j - 1))), ?_, rfl, ma_fr_pI (ma_fr_pI hf (.inl (by decide)) _) (.inl (by decide)) _, ma_M_yr hM⟩
      have x5 : pb_I (pb_pI g 229 j (nI (min 99 (S.1 3 j + 1)))) 230 j = nI (S.1 4 j) := by rw [ma_Ik, if_neg (by decide)]; exact x4
      have x6 : pb_ar (pb_pI g 229 j (nI (min 99 (S.1 3 j + 1)))) 230 12 (nI j) := mx_230 (h := pb_pI g 229 j (nI (min 99 (S.1 3 j + 1)))) H2 (by omega)
      unfold f_217_13s f_217_61
      dsimp only
      rw [if_pos (mi_217 H2), n1, if_neg (nI_ge hj (by omega)), mr_217_31 H2, Option.bind_some, if_pos (mx_229 H2 (by omega))]
      simp only [nI_clamp (show j < 2 ^ 31 by omega), x3, y3, Option.bind_some, mr_217_32 H2, if_pos (mx_230 H2 (show j < 6 by omega)), x5, if_pos x6, nI_1]
      by_cases q : S.1 4 j = 0
      · rw [if_pos ((lC0 (by omega)).mpr q), q]; rfl
      · rw [if_neg ((not_congr (lC0 (by omega))).mpr q), lK1 (by omega)]
    · rintro ⟨i, g⟩ ⟨hi, hf, hM⟩
      dsimp only at hi hf hM
      subst hi
      have H2 := ma_H_fr H hf
      have n1 : pb_I g 217 25 = nI (S.1 0 1) := hM.2.1
      refine ⟨g, ?_, hf, hM⟩
      unfold f_217_13s
      rw [if_pos (mi_217 H2), n1]
      dsimp only
      rw [if_pos (nI_le (Nat.le_refl _) (by omega))]
  obtain ⟨g, e1, f1, M1⟩ := hl
  have H2 := ma_H_fr H f1
  have eo : pb_I g 217 = pb_I h 217 := ma_fr_o f1 (by decide) (by decide)
  refine ⟨pb_pI g 217 26 (nI (S.2.1 + 1)), ?_, ma_fr_pI (ma_fr_w f1 (by decide) (by decide)) (.inr (by decide)) _, ma_M_o M1 (.inl ⟨rfl, by decide, by decide⟩) _, ?_, ?_, ?_, ?_, K0, ?_, FK⟩
  · unfold f_217
    rw [if_pos (mi_217 H), c1, if_pos ((not_congr (lE99 (by omega))).mpr (by omega)), e1, Option.bind_some, if_pos (mi_217 H2), eo, c1, nI_1]
  · rw [ma_Ik, if_pos rfl, if_pos rfl]
  · rw [ma_Ik, if_pos rfl, if_neg (by decide), eo]; exact c2
  · rw [ma_Ik, if_pos rfl, if_neg (by decide), eo]; exact c3
  · rw [ma_Ik, if_pos rfl, if_neg (by decide), eo]; exact c4
  · obtain ⟨k, hk, ek, T⟩ := F
    refine ⟨k, hk, ?_, ma_T_e T ?_⟩
    · rw [ma_Ik, if_pos rfl, if_neg (by decide), eo]; exact ek
    · rw [ma_I_pI, if_neg (by decide)]; exact ma_fr_o f1 (by decide) (by decide)
end
