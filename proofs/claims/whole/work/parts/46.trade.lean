/-! trade -/
def sp_df (x y : Nat) : Nat := x &&& (63 ^^^ y)
theorem ma_df {x y : Nat} (hx : x < 64) (hy : y < 64) : nI x &&& (nI y ^^^ (-1)) = nI (sp_df x y) := by
  have : ∀ x y : Fin 64, nI x.val &&& (nI y.val ^^^ (-1)) = nI (sp_df x.val y.val) := by decide +kernel
  exact this ⟨x, hx⟩ ⟨y, hy⟩
theorem sp_df_lt {x : Nat} (hx : x < 64) (y : Nat) : sp_df x y < 64 := Nat.lt_of_le_of_lt Nat.and_le_left hx
theorem ma_tb_df {x y t : Nat} (hx : x < 64) (hy : y < 64) (ht : t < 6) : (sp_df x y).testBit t = (x.testBit t && !y.testBit t) := by
  have : ∀ (x y : Fin 64) (t : Fin 6), (sp_df x.val y.val).testBit t.val = (x.val.testBit t.val && !y.val.testBit t.val) := by decide +kernel
  exact this ⟨x, hx⟩ ⟨y, hy⟩ ⟨t, ht⟩
def sp_ex (x t u : Nat) : Nat := sp_cl x t ||| 2 ^ u
theorem sp_ex_lt {x t u : Nat} (hx : x < 64) (hu : u < 6) : sp_ex x t u < 64 := ma_or_lt (Nat.lt_of_le_of_lt (sp_cl_le x t) hx) hu
theorem ma_xor1 {x t u : Nat} (hx : x < 64) (ht : t < 6) (hu : u < 6) (h1 : x.testBit t = true) (h2 : x.testBit u = false) : nI x ^^^ (nI (2 ^ t) ||| nI (2 ^ u)) = nI (sp_ex x t u) := by
  have : ∀ (x : Fin 64) (t u : Fin 6), x.val.testBit t.val = true → x.val.testBit u.val = false → nI x.val ^^^ (nI (2 ^ t.val) ||| nI (2 ^ u.val)) = nI (sp_ex x.val t.val u.val) := by decide +kernel
  exact this ⟨x, hx⟩ ⟨t, ht⟩ ⟨u, hu⟩ h1 h2
theorem ma_xor2 {x t u : Nat} (hx : x < 64) (ht : t < 6) (hu : u < 6) (h1 : x.testBit u = true) (h2 : x.testBit t = false) : nI x ^^^ (nI (2 ^ t) ||| nI (2 ^ u)) = nI (sp_ex x u t) := by
  have : ∀ (x : Fin 64) (t u : Fin 6), x.val.testBit u.val = true → x.val.testBit t.val = false → nI x.val ^^^ (nI (2 ^ t.val) ||| nI (2 ^ u.val)) = nI (sp_ex x.val u.val t.val) := by decide +kernel
  exact this ⟨x, hx⟩ ⟨t, ht⟩ ⟨u, hu⟩ h1 h2
def sp_K2 (K : ma_K) (a b x y : Nat) : ma_K := sp_up (sp_up K 2 a x) 2 b y
theorem sp_K2_K2 (K : ma_K) {a b : Nat} (hab : a ≠ b) (x y z w : Nat) : sp_up (sp_up (sp_K2 K a b x y) 2 a z) 2 b w = sp_K2 K a b z w := by
  unfold sp_K2
  funext i k
  by_cases e1 : i = 2 ∧ k = b
  · rw [e1.1, e1.2, sp_up_s, sp_up_s]
  · rw [sp_up_n (by omega), sp_up_n (K := sp_up K 2 a z) (by omega)]
    by_cases e2 : i = 2 ∧ k = a
    · rw [e2.1, e2.2, sp_up_s, sp_up_s]
    · rw [sp_up_n (by omega), sp_up_n (by omega), sp_up_n (by omega), sp_up_n (by omega)]
theorem sp_K2_id (K : ma_K) (a b : Nat) : sp_K2 K a b (K 2 a) (K 2 b) = K := by
  unfold sp_K2
  rw [sp_up_id, sp_up_id]
theorem ma_OK_K2 {K : ma_K} (O : ma_OK K) {a b x y : Nat} (ha : a < K 0 0) (hb : b < K 0 0) (hx : x < 64) (hy : y < 64) : ma_OK (sp_K2 K a b x y) := ma_OK_up2 (ma_OK_up2 O ha hx) (show b < sp_up K 2 a x 0 0 from hb) hy
/-- it helps to change these two (told as one number) -/
def sp_tZ (K : ma_K) (a b n : Nat) : Prop := (sp_df (K 2 a) (K 2 b)).testBit (n / 6) = true ∧ (sp_df (K 2 b) (K 2 a)).testBit (n % 6) = true ∧ sp_p63 (sp_K2 K a b (sp_ex (K 2 a) (n / 6) (n % 6)) (sp_ex (K 2 b) (n % 6) (n / 6))) = a
def sp_tT (K : ma_K) (a b : Nat) (L : List Nat) (h : pb_HP) (e : (Int32 × pb_HP) ⊕ pb_HP) : Prop := (∃ g, e = .inr g ∧ ma_fr L [] h g ∧ ∀ n, n < 36 → ¬ sp_tZ K a b n) ∨ ∃ n g, n < 36 ∧ e = .inl (nI (10 * (n / 6) + n % 6), g) ∧ ma_fr L [] h g ∧ sp_tZ K a b n ∧ ∀ k, k < n → ¬ sp_tZ K a b k
section
variable {h : pb_HP} {K : ma_K} {N c a b : Nat}
theorem c_114l (O : ma_OK K) (hc : c = 3 ∨ c = 10) (ha : a < K 0 0) (hb : b < K 0 0) (hab : a ≠ b) (H : ma_H h) (V0 : ma_V h c K) (W : ma_V h 185 K) (hN : 3000 < N) : ∃ e, pb_wl (f_114_45s N 184 c (nI a) (nI b) (nI (sp_df (K 2 a) (K 2 b))) (nI (sp_df (K 2 b) (K 2 a)))) N (0, h) = some e ∧ sp_tT K a b ma_tL h e := by
  have hme := O.1
  have x1 := (O.2.2.1 a).2.1
  have x2 := (O.2.2.1 b).2.1
  have d1 := sp_df_lt x1 (K 2 b)
  have d2 := sp_df_lt x2 (K 2 a)
  refine ma_lh (fun j s => s.1 = nI j ∧ ma_fr ma_tL [] h s.2 ∧ (∃ x y, x < 64 ∧ y < 64 ∧ ma_V s.2 185 (sp_K2 K a b x y)) ∧ ∀ n, n < 6 * j → ¬ sp_tZ K a b n) _ 6 0 N _ (by omega) (by omega) ⟨rfl, ma_fr_r _ _ _, ⟨K 2 a, K 2 b, x1, x2, by rw [sp_K2_id]; exact W⟩, fun n hn => absurd hn (by omega)⟩ ?_ ?_
  · rintro j ⟨i, g⟩ _ hj ⟨hi, hf, hV, hz⟩
    dsimp only at hi hf hV
    subst hi
    have ej : ¬ (6 : Int32) ≤ nI j := (not_congr (lA6 (show j < 2 ^ 31 by omega))).mpr (by omega)
    have l1 : ∃ e, pb_wl (f_114_55s N 184 c (nI a) (nI b) (nI (sp_df (K 2 a) (K 2 b))) (nI (sp_df (K 2 b) (K 2 a))) (nI j)) N (0, g) = some e ∧ ((∃ g3, e = .inr g3 ∧ ma_fr ma_tL [] h g3 ∧ (∃ x y, x < 64 ∧ y < 64 ∧ ma_V g3 185 (sp_K2 K a b x y)) ∧ ∀ n, n < 6 * (j + 1) → ¬ sp_tZ K a b n) ∨ ∃ n g3, n < 36 ∧ e = .inl (nI (10 * (n / 6) + n % 6), g3) ∧ ma_fr ma_tL [] h g3 ∧ sp_tZ K a b n ∧ ∀ k, k < n → ¬ sp_tZ K a b k) := by
      refine ma_lh (fun k s => s.1 = nI k ∧ ma_fr ma_tL [] h s.2 ∧ (∃ x y, x < 64 ∧ y < 64 ∧ ma_V s.2 185 (sp_K2 K a b x y)) ∧ ∀ n, n < 6 * j + k → ¬ sp_tZ K a b n) _ 6 0 N _ (by omega) (by omega) ⟨rfl, hf, hV, fun n hn => hz n (by omega)⟩ ?_ ?_
      · rintro k ⟨i, g2⟩ _ hk ⟨hi, hf2, hV2, hz2⟩
        dsimp only at hi hf2 hV2
        subst hi
        have H2 := ma_H_fr H hf2
        have ek : ¬ (6 : Int32) ≤ nI k := (not_congr (lA6 (show k < 2 ^ 31 by omega))).mpr (by omega)
        have n1 : (6 * j + k) / 6 = j := by omega
        have n2 : (6 * j + k) % 6 = k := by omega
        have t1 := ma_tb_df x1 x2 hj
        have t2 := ma_tb_df x2 x1 hk
        have nx : ¬ sp_tZ K a b (6 * j + k) → ∀ n, n < 6 * j + (k + 1) → ¬ sp_tZ K a b n := fun z n hn => by
          by_cases e : n = 6 * j + k
          · rw [e]; exact z
          · exact hz2 n (by omega)
        by_cases q1 : (sp_df (K 2 a) (K 2 b)).testBit j = true
        · by_cases q2 : (sp_df (K 2 b) (K 2 a)).testBit k = true
          · obtain ⟨x, y, hx, hy, V2⟩ := hV2
            rw [q1] at t1
            rw [q2] at t2
            have u1 : (K 2 a).testBit j = true := by revert t1; cases (K 2 a).testBit j <;> simp
            have u2 : (K 2 b).testBit j = false := by revert t1; cases (K 2 b).testBit j <;> simp
            have u3 : (K 2 b).testBit k = true := by revert t2; cases (K 2 b).testBit k <;> simp
            have u4 : (K 2 a).testBit k = false := by revert t2; cases (K 2 a).testBit k <;> simp
            have w1 := ma_xor1 x1 hj hk u1 u4
            have w2 := ma_xor2 x2 hj hk u3 u2
            have VC : ma_V g2 c K := ma_V_fr V0 hf2 (fun o a b => ⟨by simp; omega, by simp⟩)
            have r1 : pb_I g2 (c + 2) a = nI (K 2 a) := VC.2.2.2.2.1 a (by omega)
            have r2 : pb_I (pb_pI g2 187 a (nI (sp_ex (K 2 a) j k))) (c + 2) b = nI (K 2 b) := by rw [ma_Ik, if_neg (by omega)]; exact VC.2.2.2.2.1 b (by omega)
            have V3 : ma_V (pb_pI (pb_pI g2 187 a (nI (sp_ex (K 2 a) j k))) 187 b (nI (sp_ex (K 2 b) k j))) 185 (sp_K2 K a b (sp_ex (K 2 a) j k) (sp_ex (K 2 b) k j)) := by
              have := ma_V_p2 (ma_V_p2 V2 a (sp_ex (K 2 a) j k)) b (sp_ex (K 2 b) k j)
              rw [sp_K2_K2 K hab] at this
              exact this
            have O3 := ma_OK_K2 O ha hb (sp_ex_lt (t := j) x1 hk) (sp_ex_lt (t := k) x2 hj)
            have H3 : ma_H (pb_pI (pb_pI g2 187 a (nI (sp_ex (K 2 a) j k))) 187 b (nI (sp_ex (K 2 b) k j))) := H2
            obtain ⟨g4, a1, a2⟩ := c_109 (N := N) H3 V3 O3 hN
            have f3 : ma_fr ma_tL [] h g4 := ma_fr_t (ma_fr_pI (ma_fr_pI hf2 (.inl (by decide)) _) (.inl (by decide)) _) (ma_fr_w a2 (by decide) (by decide))
            have hp : sp_p63 (sp_K2 K a b (sp_ex (K 2 a) j k) (sp_ex (K 2 b) k j)) ≤ 6 := sp_pk_le O3 _ _
            have eq : (nI (sp_p63 (sp_K2 K a b (sp_ex (K 2 a) j k) (sp_ex (K 2 b) k j))) = nI a) ↔ (sp_p63 (sp_K2 K a b (sp_ex (K 2 a) j k) (sp_ex (K 2 b) k j)) = a) := nI_eq (by omega) (by omega)
            have red : f_114_55s N 184 c (nI a) (nI b) (nI (sp_df (K 2 a) (K 2 b))) (nI (sp_df (K 2 b) (K 2 a))) (nI j) (nI k, g2) = if ¬ nI (sp_p63 (sp_K2 K a b (sp_ex (K 2 a) j k) (sp_ex (K 2 b) k j))) = nI a then some (.inl (nI (k + 1), g4)) else some (.inr (.inl (nI (10 * j + k), g4))) := by
              simp only [f_114_55s, if_neg ek, ma_bit (show sp_df (K 2 a) (K 2 b) < 2 ^ 31 by omega) (show j < 32 by omega), ma_bit (show sp_df (K 2 b) (K 2 a) < 2 ^ 31 by omega) (show k < 32 by omega), q1, q2, if_true, i10, if_false, if_pos (mi_184 H2), mr_184_0 H2, Option.bind_some, if_pos (mi_185 H2), mr_185_3 H2, if_pos (wv_is H2 VC.1), jv_r3 H2 VC.1, if_pos (wv_x2 H2 VC.1 (show a < 6 by omega)), if_pos (wv_x2 H2 VC.1 (show b < 6 by omega)), if_pos (mx_187 H2 (show a < 6 by omega)), if_pos (mx_187 H2 (show b < 6 by omega)), nI_clamp (show a < 2 ^ 31 by omega), nI_clamp (show b < 2 ^ 31 by omega), ma_shl (show j < 31 by omega), ma_shl (show k < 31 by omega), r1, w1, r2, w2, pb_hb, a1, lI10, nI_add, nI_1]
            by_cases q3 : sp_p63 (sp_K2 K a b (sp_ex (K 2 a) j k) (sp_ex (K 2 b) k j)) = a
            · right
              refine ⟨.inl (nI (10 * j + k), g4), by rw [red, if_neg (fun z => z (eq.mpr q3))], .inr ⟨6 * j + k, g4, by omega, by rw [n1, n2], f3, ?_, hz2⟩⟩
              unfold sp_tZ
              rw [n1, n2]
              exact ⟨q1, q2, q3⟩
            · left
              refine ⟨(nI (k + 1), g4), by rw [red, if_pos (fun z => q3 (eq.mp z))], rfl, f3, ⟨_, _, sp_ex_lt (t := j) x1 hk, sp_ex_lt (t := k) x2 hj, ma_V_tp V3 a2⟩, nx ?_⟩
              unfold sp_tZ
              rw [n1, n2]
              exact fun z => q3 z.2.2
          · left
            refine ⟨(nI (k + 1), g2), ?_, rfl, hf2, hV2, nx ?_⟩
            · have q2 : (sp_df (K 2 b) (K 2 a)).testBit k = false := by simpa using q2
              simp only [f_114_55s, if_neg ek, ma_bit (show sp_df (K 2 a) (K 2 b) < 2 ^ 31 by omega) (show j < 32 by omega), ma_bit (show sp_df (K 2 b) (K 2 a) < 2 ^ 31 by omega) (show k < 32 by omega), q1, q2, if_true, i10, if_false, Bool.false_eq_true, nI_1]
            · unfold sp_tZ
              rw [n1, n2]
              exact fun z => q2 z.2.1
        · left
          refine ⟨(nI (k + 1), g2), ?_, rfl, hf2, hV2, nx ?_⟩
          · have q1 : (sp_df (K 2 a) (K 2 b)).testBit j = false := by simpa using q1
            simp only [f_114_55s, if_neg ek, ma_bit (show sp_df (K 2 a) (K 2 b) < 2 ^ 31 by omega) (show j < 32 by omega), q1, if_true, if_false, Bool.false_eq_true, nI_1]
          · unfold sp_tZ
            rw [n1, n2]
            exact fun z => q1 z.1
      · rintro ⟨i, g2⟩ ⟨hi, hf2, hV2, hz2⟩
        dsimp only at hi hf2 hV2
        subst hi
        exact ⟨.inr g2, rfl, .inl ⟨g2, rfl, hf2, hV2, fun n hn => hz2 n (by omega)⟩⟩
    obtain ⟨e, a1, a2⟩ := l1
    rcases a2 with ⟨g3, rfl, f3, V3, z3⟩ | ⟨n, g3, hn, rfl, f3, zn, zk⟩
    · left
      refine ⟨(nI (j + 1), g3), ?_, rfl, f3, V3, z3⟩
      simp only [f_114_45s, if_neg ej, a1, Option.bind_some, nI_1]
    · right
      refine ⟨.inl (nI (10 * (n / 6) + n % 6), g3), ?_, .inr ⟨n, g3, hn, rfl, f3, zn, zk⟩⟩
      simp only [f_114_45s, if_neg ej, a1, Option.bind_some]
  · rintro ⟨i, g⟩ ⟨hi, hf, hV, hz⟩
    dsimp only at hi hf hV
    subst hi
    exact ⟨.inr g, rfl, .inl ⟨g, rfl, hf, fun n hn => hz n (by omega)⟩⟩
theorem m_272l (O : ma_OK K) (ha : a < K 0 0) (hb : b < K 0 0) (hab : a ≠ b) (H : ma_H h) (W : ma_M h K) (hN : 3000 < N) : ∃ e, pb_wl (f_272_55s N 217 (nI a) (nI b) (nI (K 2 a)) (nI (K 2 b))) N (0, h) = some e ∧ sp_tT K a b [228, 233] h e := by
  have hme := O.1
  have x1 := (O.2.2.1 a).2.1
  have x2 := (O.2.2.1 b).2.1
  have d1 := sp_df_lt x1 (K 2 b)
  have d2 := sp_df_lt x2 (K 2 a)
  refine ma_lh (fun j s => s.1 = nI j ∧ ma_fr [228, 233] [] h s.2 ∧ (∃ x y, x < 64 ∧ y < 64 ∧ ma_M s.2 (sp_K2 K a b x y)) ∧ ∀ n, n < 6 * j → ¬ sp_tZ K a b n) _ 6 0 N _ (by omega) (by omega) ⟨rfl, ma_fr_r _ _ _, ⟨K 2 a, K 2 b, x1, x2, by rw [sp_K2_id]; exact W⟩, fun n hn => absurd hn (by omega)⟩ ?_ ?_
  · rintro j ⟨i, g⟩ _ hj ⟨hi, hf, hV, hz⟩
    dsimp only at hi hf hV
    subst hi
    have ej : ¬ (6 : Int32) ≤ nI j := (not_congr (lA6 (show j < 2 ^ 31 by omega))).mpr (by omega)
    have l1 : ∃ e, pb_wl (f_272_65s N 217 (nI a) (nI b) (nI (K 2 a)) (nI (K 2 b)) (nI j)) N (0, g) = some e ∧ ((∃ g3, e = .inr g3 ∧ ma_fr [228, 233] [] h g3 ∧ (∃ x y, x < 64 ∧ y < 64 ∧ ma_M g3 (sp_K2 K a b x y)) ∧ ∀ n, n < 6 * (j + 1) → ¬ sp_tZ K a b n) ∨ ∃ n g3, n < 36 ∧ e = .inl (nI (10 * (n / 6) + n % 6), g3) ∧ ma_fr [228, 233] [] h g3 ∧ sp_tZ K a b n ∧ ∀ k, k < n → ¬ sp_tZ K a b k) := by
      refine ma_lh (fun k s => s.1 = nI k ∧ ma_fr [228, 233] [] h s.2 ∧ (∃ x y, x < 64 ∧ y < 64 ∧ ma_M s.2 (sp_K2 K a b x y)) ∧ ∀ n, n < 6 * j + k → ¬ sp_tZ K a b n) _ 6 0 N _ (by omega) (by omega) ⟨rfl, hf, hV, fun n hn => hz n (by omega)⟩ ?_ ?_
      · rintro k ⟨i, g2⟩ _ hk ⟨hi, hf2, hV2, hz2⟩
        dsimp only at hi hf2 hV2
        subst hi
        have H2 := ma_H_fr H hf2
        have ek : ¬ (6 : Int32) ≤ nI k := (not_congr (lA6 (show k < 2 ^ 31 by omega))).mpr (by omega)
        have n1 : (6 * j + k) / 6 = j := by omega
        have n2 : (6 * j + k) % 6 = k := by omega
        have t1 := ma_tb_df x1 x2 hj
        have t2 := ma_tb_df x2 x1 hk
        have nx : ¬ sp_tZ K a b (6 * j + k) → ∀ n, n < 6 * j + (k + 1) → ¬ sp_tZ K a b n := fun z n hn => by
          by_cases e : n = 6 * j + k
          · rw [e]; exact z
          · exact hz2 n (by omega)
        have e1 := ma_has (s := sp_df (K 2 a) (K 2 b)) (k := j) (by omega) (by omega)
        have e2 := ma_has (s := sp_df (K 2 b) (K 2 a)) (k := k) (by omega) (by omega)
        by_cases q1 : (sp_df (K 2 a) (K 2 b)).testBit j = true
        · by_cases q2 : (sp_df (K 2 b) (K 2 a)).testBit k = true
          · obtain ⟨x, y, hx, hy, V2⟩ := hV2
            rw [q1] at e1
            rw [q2] at e2
            have V3 : ma_M (pb_pI (pb_pI g2 228 a (nI (sp_ex (K 2 a) j k))) 228 b (nI (sp_ex (K 2 b) k j))) (sp_K2 K a b (sp_ex (K 2 a) j k) (sp_ex (K 2 b) k j)) := by
              have := ma_M_p2 (ma_M_p2 V2 a (sp_ex (K 2 a) j k)) b (sp_ex (K 2 b) k j)
              rw [sp_K2_K2 K hab] at this
              exact this
            have O3 := ma_OK_K2 O ha hb (sp_ex_lt (t := j) x1 hk) (sp_ex_lt (t := k) x2 hj)
            have H3 : ma_H (pb_pI (pb_pI g2 228 a (nI (sp_ex (K 2 a) j k))) 228 b (nI (sp_ex (K 2 b) k j))) := H2
            obtain ⟨g4, a1, a2⟩ := m_210p (N := N) H3 V3 O3 hN
            have f3 : ma_fr [228, 233] [] h g4 := ma_fr_t (ma_fr_pI (ma_fr_pI hf2 (.inl (by decide)) _) (.inl (by decide)) _) (ma_fr_w a2 (by decide) (by decide))
            have hp : sp_p63 (sp_K2 K a b (sp_ex (K 2 a) j k) (sp_ex (K 2 b) k j)) ≤ 6 := sp_pk_le O3 _ _
            have eq : (nI (sp_p63 (sp_K2 K a b (sp_ex (K 2 a) j k) (sp_ex (K 2 b) k j))) = nI a) ↔ (sp_p63 (sp_K2 K a b (sp_ex (K 2 a) j k) (sp_ex (K 2 b) k j)) = a) := nI_eq (by omega) (by omega)
            have w1 : nI (K 2 a) &&& (nI (2 ^ j) ^^^ -1) ||| nI (2 ^ k) = nI (sp_ex (K 2 a) j k) := by rw [ma_clr x1 hj, fa_or]; rfl
            have w2 : nI (K 2 b) &&& (nI (2 ^ k) ^^^ -1) ||| nI (2 ^ j) = nI (sp_ex (K 2 b) k j) := by rw [ma_clr x2 hk, fa_or]; rfl
            have red : f_272_65s N 217 (nI a) (nI b) (nI (K 2 a)) (nI (K 2 b)) (nI j) (nI k, g2) = if ¬ nI (sp_p63 (sp_K2 K a b (sp_ex (K 2 a) j k) (sp_ex (K 2 b) k j))) = nI a then some (.inl (nI (k + 1), g4)) else some (.inr (.inl (nI (10 * j + k), g4))) := by
              simp only [f_272_65s, if_neg ek, ma_df x1 x2, ma_df x2 x1, e1, e2, Option.bind_some, if_true, i10, if_false, if_pos (mi_217 H2), mr_217_30 H2, if_pos (mx_228 H2 (show a < 6 by omega)), if_pos (mx_228 H2 (show b < 6 by omega)), nI_clamp (show a < 2 ^ 31 by omega), nI_clamp (show b < 2 ^ 31 by omega), ma_shl (show j < 31 by omega), ma_shl (show k < 31 by omega), w1, w2, pb_hb, a1, lI10, nI_add, nI_1]
            by_cases q3 : sp_p63 (sp_K2 K a b (sp_ex (K 2 a) j k) (sp_ex (K 2 b) k j)) = a
            · right
              refine ⟨.inl (nI (10 * j + k), g4), by rw [red, if_neg (fun z => z (eq.mpr q3))], .inr ⟨6 * j + k, g4, by omega, by rw [n1, n2], f3, ?_, hz2⟩⟩
              unfold sp_tZ
              rw [n1, n2]
              exact ⟨q1, q2, q3⟩
            · left
              refine ⟨(nI (k + 1), g4), by rw [red, if_pos (fun z => q3 (eq.mp z))], rfl, f3, ⟨_, _, sp_ex_lt (t := j) x1 hk, sp_ex_lt (t := k) x2 hj, ma_M_fr V3 a2 (by decide) (by decide)⟩, nx ?_⟩
              unfold sp_tZ
              rw [n1, n2]
              exact fun z => q3 z.2.2
          · left
            refine ⟨(nI (k + 1), g2), ?_, rfl, hf2, hV2, nx ?_⟩
            · have q2 : (sp_df (K 2 b) (K 2 a)).testBit k = false := by simpa using q2
              rw [q1] at e1
              rw [q2] at e2
              simp only [f_272_65s, if_neg ek, ma_df x1 x2, ma_df x2 x1, e1, e2, Option.bind_some, if_true, i10, if_false, Bool.false_eq_true, nI_1]
            · unfold sp_tZ
              rw [n1, n2]
              exact fun z => q2 z.2.1
        · left
          refine ⟨(nI (k + 1), g2), ?_, rfl, hf2, hV2, nx ?_⟩
          · have q1 : (sp_df (K 2 a) (K 2 b)).testBit j = false := by simpa using q1
            rw [q1] at e1
            simp only [f_272_65s, if_neg ek, ma_df x1 x2, e1, Option.bind_some, if_true, if_false, Bool.false_eq_true, nI_1]
          · unfold sp_tZ
            rw [n1, n2]
            exact fun z => q1 z.1
      · rintro ⟨i, g2⟩ ⟨hi, hf2, hV2, hz2⟩
        dsimp only at hi hf2 hV2
        subst hi
        exact ⟨.inr g2, rfl, .inl ⟨g2, rfl, hf2, hV2, fun n hn => hz2 n (by omega)⟩⟩
    obtain ⟨e, a1, a2⟩ := l1
    rcases a2 with ⟨g3, rfl, f3, V3, z3⟩ | ⟨n, g3, hn, rfl, f3, zn, zk⟩
    · left
      refine ⟨(nI (j + 1), g3), ?_, rfl, f3, V3, z3⟩
      simp only [f_272_55s, if_neg ej, a1, Option.bind_some, nI_1]
    · right
      refine ⟨.inl (nI (10 * (n / 6) + n % 6), g3), ?_, .inr ⟨n, g3, hn, rfl, f3, zn, zk⟩⟩
      simp only [f_272_55s, if_neg ej, a1, Option.bind_some]
  · rintro ⟨i, g⟩ ⟨hi, hf, hV, hz⟩
    dsimp only at hi hf hV
    subst hi
    exact ⟨.inr g, rfl, .inl ⟨g, rfl, hf, fun n hn => hz n (by omega)⟩⟩
theorem sp_tT_eq {L L' : List Nat} {h' : pb_HP} {e e' : (Int32 × pb_HP) ⊕ pb_HP} (t : sp_tT K a b L h e) (t' : sp_tT K a b L' h' e') : ∃ r g g', (match e with | .inl q => some q | .inr x => some ((-1 : Int32), x)) = some (r, g) ∧ ma_fr L [] h g ∧ (match e' with | .inl q => some q | .inr x => some ((-1 : Int32), x)) = some (r, g') ∧ ma_fr L' [] h' g' := by
  rcases t with ⟨g, rfl, f, no⟩ | ⟨n, g, hn, rfl, f, zn, zk⟩
  · rcases t' with ⟨g', rfl, f', no'⟩ | ⟨n', g', hn', rfl, f', zn', zk'⟩
    · exact ⟨-1, g, g', rfl, f, rfl, f'⟩
    · exact absurd zn' (no n' hn')
  · rcases t' with ⟨g', rfl, f', no'⟩ | ⟨n', g', hn', rfl, f', zn', zk'⟩
    · exact absurd zn (no' n hn)
    · have : n = n' := by
        rcases Nat.lt_trichotomy n n' with l | l | l
        · exact absurd zn (zk' n l)
        · exact l
        · exact absurd zn' (zk n' l)
      subst this
      exact ⟨_, g, g', rfl, f, rfl, f'⟩
end
section
variable {h : pb_HP} {N : Nat}
theorem q_trade (I : ma_INV h) (hN : 3000 < N) (x y z : Int32) : ma_Q h (f_145 N h 0 x y z) (fun g => f_272 N g 217 x y z) := by
  have H := I.1
  have hq : ma_q h (pb_pI h 217 0 0) := ma_q_pI (ma_q_r h) (by decide) 0 0
  rcases ma_W I hN x with ⟨e1, e2⟩ | ⟨c, K, e1, hc, O, OT, V, e2⟩
  · exact ⟨-1, h, pb_pI h 217 0 0, by simp only [f_145, if_pos (mi_0 H), mr_0_0 H, Option.bind_some, if_pos (mi_1 H), e1], ma_q_r h, by simp only [f_272, if_pos (mi_217 H), e2 _ hq, Option.bind_some, i10, i01, true_or, or_true, false_or, or_false, true_and, and_true, and_false, false_and, not_true_eq_false, not_false_eq_true, if_true, if_false, eq_self, ma_b0, Bool.false_eq_true, Bool.true_eq_false, reduceCtorEq], hq⟩
  · have hO := O.1
    cases qm : ma_at y (K 0 0)
    · obtain ⟨g, e3, q3, B⟩ := e2 _ hq
      exact ⟨-1, h, g, by simp only [f_145, if_pos (mi_0 H), mr_0_0 H, Option.bind_some, if_pos (mi_1 H), e1, if_pos (wv_is H V.1), c_3 H V, qm, i10, i01, true_or, or_true, false_or, or_false, true_and, and_true, and_false, false_and, not_true_eq_false, not_false_eq_true, if_true, if_false, eq_self, ma_b0, Bool.false_eq_true, Bool.true_eq_false, reduceCtorEq], ma_q_r h, by simp only [f_272, if_pos (mi_217 H), e3, Option.bind_some, if_pos (mi_217 B.1), m_200 B.1 B.2.1 O, qm, i10, i01, true_or, or_true, false_or, or_false, true_and, and_true, and_false, false_and, not_true_eq_false, not_false_eq_true, if_true, if_false, eq_self, ma_b0, Bool.false_eq_true, Bool.true_eq_false, reduceCtorEq], ma_q_t hq q3⟩
    · have qy := qm
      clear qm
      cases qm : ma_at z (K 0 0)
      · obtain ⟨g, e3, q3, B⟩ := e2 _ hq
        exact ⟨-1, h, g, by simp only [f_145, if_pos (mi_0 H), mr_0_0 H, Option.bind_some, if_pos (mi_1 H), e1, if_pos (wv_is H V.1), c_3 H V, qy, qm, i10, i01, true_or, or_true, false_or, or_false, true_and, and_true, and_false, false_and, not_true_eq_false, not_false_eq_true, if_true, if_false, eq_self, ma_b0, Bool.false_eq_true, Bool.true_eq_false, reduceCtorEq], ma_q_r h, by simp only [f_272, if_pos (mi_217 H), e3, Option.bind_some, if_pos (mi_217 B.1), m_200 B.1 B.2.1 O, qy, qm, i10, i01, true_or, or_true, false_or, or_false, true_and, and_true, and_false, false_and, not_true_eq_false, not_false_eq_true, if_true, if_false, eq_self, ma_b0, Bool.false_eq_true, Bool.true_eq_false, reduceCtorEq], ma_q_t hq q3⟩
      · obtain ⟨a, ha, rfl⟩ := ma_at_ex (by omega) qy
        obtain ⟨b, hb, rfl⟩ := ma_at_ex (by omega) qm
        have eq : (nI a = nI b) = (a = b) := propext (nI_eq (by omega) (by omega))
        by_cases qe : a = b
        · obtain ⟨g, e3, q3, B⟩ := e2 _ hq
          exact ⟨-1, h, g, by simp only [f_145, if_pos (mi_0 H), mr_0_0 H, Option.bind_some, if_pos (mi_1 H), e1, if_pos (wv_is H V.1), c_3 H V, qy, qm, eq, qe, i10, i01, true_or, or_true, false_or, or_false, true_and, and_true, and_false, false_and, not_true_eq_false, not_false_eq_true, if_true, if_false, eq_self, ma_b0, Bool.false_eq_true, Bool.true_eq_false, reduceCtorEq], ma_q_r h, by simp only [f_272, if_pos (mi_217 H), e3, Option.bind_some, if_pos (mi_217 B.1), m_200 B.1 B.2.1 O, qm, qy, eq, qe, i10, i01, true_or, or_true, false_or, or_false, true_and, and_true, and_false, false_and, not_true_eq_false, not_false_eq_true, if_true, if_false, eq_self, ma_b0, Bool.false_eq_true, Bool.true_eq_false, reduceCtorEq], ma_q_t hq q3⟩
        · have x1 := (O.2.2.1 a).2.1
          have x2 := (O.2.2.1 b).2.1
          obtain ⟨g0, b1, b2, b3⟩ := c_2 H V O ma_ct185 (by omega)
          have H0 := ma_H_fr H b2
          have V0 : ma_V g0 c K := ma_V_fr V b2 (fun o a b => ⟨by simp; omega, by simp⟩)
          obtain ⟨e, c1, c2⟩ := c_114l (N := N) O hc ha hb qe H0 V0 b3 hN
          have mid : ∀ g1, ma_fr ma_tL [] g0 g1 → ∃ g2, f_198 N (pb_pI g1 217 0 0) 217 x = some (1, g2) ∧ ma_q (pb_pI g1 217 0 0) g2 ∧ ma_B g2 K := fun g1 f => e2 _ (ma_q_pI (ma_q_t (ma_q_fr b2 (by decide)) (ma_tq f)) (by decide : ¬ ma_ps 217) 0 0)
          have ex : ∃ r g1, (match e with | .inl q => some q | .inr x => some ((-1 : Int32), x)) = some (r, g1) ∧ ma_fr ma_tL [] g0 g1 := by
            obtain ⟨r, g, _, a1, a2, _⟩ := sp_tT_eq c2 c2
            exact ⟨r, g, a1, a2⟩
          obtain ⟨r0, g1, d1, d2⟩ := ex
          have qg : ma_q h g1 := ma_q_t (ma_q_fr b2 (by decide)) (ma_tq d2)
          obtain ⟨g2, e3, q3, B⟩ := mid g1 d2
          obtain ⟨e', m1, m2⟩ := m_272l (N := N) O ha hb qe B.1 B.2.1 hN
          obtain ⟨r, g1', g3, k1, k2, k3, k4⟩ := sp_tT_eq c2 m2
          rw [d1] at k1
          obtain ⟨rfl, rfl⟩ := Prod.mk.inj (Option.some.inj k1)
          refine ⟨r0, g1, g3, ?_, qg, ?_, ma_q_t (ma_q_pI (ma_q_r g1) (by decide) 0 0) (ma_q_t q3 (ma_q_fr k4 (by decide)))⟩
          · have z : f_114 N h 184 c (nI a) (nI b) = some (r0, g1) := by
              simp only [f_114, if_pos (mi_184 H), mr_184_0 H, Option.bind_some, if_pos (mi_185 H), b1, if_pos (wv_is H0 V0.1), jv_r3 H0 V0.1, if_pos (wv_x2 H0 V0.1 (show a < 6 by omega)), if_pos (wv_x2 H0 V0.1 (show b < 6 by omega)), nI_clamp (show a < 2 ^ 31 by omega), nI_clamp (show b < 2 ^ 31 by omega), V0.2.2.2.2.1 a (by omega), V0.2.2.2.2.1 b (by omega), ma_df x1 x2, ma_df x2 x1, c1]
              exact d1
            simp only [f_145, if_pos (mi_0 H), mr_0_0 H, Option.bind_some, if_pos (mi_1 H), e1, if_pos (wv_is H V.1), c_3 H V, qy, qm, eq, qe, mr_0_5 H, if_pos (mi_184 H), z, i10, i01, true_or, or_true, false_or, or_false, true_and, and_true, and_false, false_and, not_true_eq_false, not_false_eq_true, if_true, if_false, eq_self, ma_b0, Bool.false_eq_true, Bool.true_eq_false, reduceCtorEq]
          · simp only [f_272, if_pos (mi_217 (ma_H_q H qg)), e3, Option.bind_some, if_pos (mi_217 B.1), m_200 B.1 B.2.1 O, qm, qy, eq, qe, mr_217_30 B.1, if_pos (mx_228 B.1 (show a < 6 by omega)), if_pos (mx_228 B.1 (show b < 6 by omega)), nI_clamp (show a < 2 ^ 31 by omega), nI_clamp (show b < 2 ^ 31 by omega), B.2.1.2.2.1 a (by omega), B.2.1.2.2.1 b (by omega), m1, i10, i01, true_or, or_true, false_or, or_false, true_and, and_true, and_false, false_and, not_true_eq_false, not_false_eq_true, if_true, if_false, eq_self, ma_b0, Bool.false_eq_true, Bool.true_eq_false, reduceCtorEq]
            exact k3
end
