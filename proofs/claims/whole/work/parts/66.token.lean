/-! text: how the model takes the next token -/
def tx_by (b : Int32) : Prop := (b &&& 255 = 10 ↔ b = 10) ∧ (b &&& 255 = 32 ↔ b = 32) ∧ (b &&& 255 = 59 ↔ b = 59) ∧ f_168 (b &&& 255) 97 122 = some (if sp_A b then 1 else 0) ∧ f_168 (b &&& 255) 48 57 = some (if sp_D b then 1 else 0) ∧ 0 ≤ b &&& 255 ∧ (sp_A b = true → b &&& 255 = nI b.toNatClampNeg ∧ b = nI b.toNatClampNeg ∧ 97 ≤ b.toNatClampNeg ∧ b.toNatClampNeg ≤ 122) ∧ (sp_D b = true → b &&& 255 = nI b.toNatClampNeg ∧ b = nI b.toNatClampNeg ∧ 48 ≤ b.toNatClampNeg ∧ b.toNatClampNeg ≤ 57)
theorem tx_b0 : ∀ k : Fin 256, tx_by (Int8.toInt32 ⟨⟨⟨k⟩⟩⟩) := by unfold tx_by; decide +kernel
theorem tx_b {b : Int32} (e : b.toInt8.toInt32 = b) : tx_by b := by
  rw [← e]
  match b.toInt8 with
  | ⟨⟨⟨k⟩⟩⟩ => exact tx_b0 k
theorem ma_ooJ (h : pb_HP) (o k : Nat) (v w : Int64) : pb_pJ (pb_pJ h o k v) o k w = pb_pJ h o k w := by
  refine Prod.ext rfl (Prod.ext rfl (Prod.ext (funext fun p => funext fun j => ?_) rfl))
  show va_up (va_up h.2.2.1 o (vp_updL (h.2.2.1 o) k v)) o (vp_updL (va_up h.2.2.1 o (vp_updL (h.2.2.1 o) k v) o) k w) p j = va_up h.2.2.1 o (vp_updL (h.2.2.1 o) k w) p j
  unfold va_up vp_updL
  by_cases a : p = o
  · by_cases b : j = k
    · simp [a, b]
    · simp [a, b]
  · simp [a]
theorem ma_Jk (h : pb_HP) (o k : Nat) (v : Int64) : pb_J (pb_pJ h o k v) o k = v := by
  show va_up h.2.2.1 o (vp_updL (h.2.2.1 o) k v) o k = v
  unfold va_up vp_updL
  simp
theorem ma_I_pJ (h : pb_HP) (o k : Nat) (v : Int64) : pb_I (pb_pJ h o k v) = pb_I h := rfl
theorem ma_fr_pJ {L : List Nat} {F : List (Nat × Nat)} {h g : pb_HP} (f : ma_fr L F h g) (o k : Nat) (v : Int64) : ma_fr L F h (pb_pJ g o k v) := f
def sp_km (k : Nat) : Nat := [0, 2, 3, 4, 1].getD k 1
def sp_wd (B : Nat → Int32) (a : Nat) : Nat → Int64
  | 0 => 0
  | m + 1 => (sp_wd B a m <<< (Int32.toInt64 8 &&& 63)) ||| Int32.toInt64 (B (a + m) &&& 255)
/-- what a number is, of one sign or two -/
def sp_vm (B : Nat → Int32) (a m : Nat) : Nat := if m = 0 then 0 else if m = 1 then (B a).toNatClampNeg - 48 else 10 * ((B a).toNatClampNeg - 48) + ((B (a + 1)).toNatClampNeg - 48)
/-- the model's token at hand is the one at i -/
def tx_M (g : pb_HP) (B : Nat → Int32) (n i : Nat) : Prop := pb_I g 217 9 = nI (sp_tk B n i).2.2 ∧ pb_I g 217 11 = nI (sp_tk B n i).2.1 ∧ pb_I g 217 12 = nI (sp_km (sp_tk B n i).1) ∧ ((sp_tk B n i).1 = 2 → pb_I g 217 13 = nI (sp_vm B (sp_tk B n i).2.1 ((sp_tk B n i).2.2 - (sp_tk B n i).2.1))) ∧ ((sp_tk B n i).1 = 1 → pb_J g 217 14 = if (sp_tk B n i).2.2 - (sp_tk B n i).2.1 ≤ 8 then sp_wd B (sp_tk B n i).2.1 ((sp_tk B n i).2.2 - (sp_tk B n i).2.1) else 0)
/-- the model's tape -/
def tx_E (h : pb_HP) (B : Nat → Int32) (n : Nat) : Prop := ma_H h ∧ pb_I h 217 10 = nI n ∧ ∀ j, j < n → pb_I h 218 j = B j
section
variable {h : pb_HP} {N n i : Nat} {B : Nat → Int32}
theorem m_179 (E : tx_E h B n) (hn : n ≤ 600) {j : Nat} (e9 : pb_I h 217 9 = nI j) (hj : j ≤ n) : f_179 h 217 = some (if n ≤ j then -1 else B j &&& 255) := by
  obtain ⟨H, d, b⟩ := E
  unfold f_179
  rw [if_pos (mi_217 H), d, e9]
  by_cases c : n ≤ j
  · rw [if_pos (nI_le c (by omega)), if_pos c]
  · rw [if_neg (nI_ge (by omega) (by omega)), mr_217_1 H, Option.bind_some, if_pos (mx_218 H (by omega)), nI_clamp (by omega), b j (by omega), if_neg c]
theorem m_180a (E : tx_E h B n) (hB : ∀ j, j < n → (B j).toInt8.toInt32 = B j) (hn : n ≤ 600) (hi : i ≤ n) (e9 : pb_I h 217 9 = nI i) (hN : 3000 < N) : pb_wl (f_180_0s N 217) N h = some (pb_pI h 217 9 (nI (sp_en sp_W B n i))) := by
  have H := E.1
  have Es : ∀ j, tx_E (pb_pI h 217 9 (nI j)) B n := fun j => ⟨H, by rw [ma_Ik, if_pos rfl, if_neg (by decide)]; exact E.2.1, fun k hk => by rw [ma_Ik, if_neg (by decide)]; exact E.2.2 k hk⟩
  have e0 : ∀ j, pb_I (pb_pI h 217 9 (nI j)) 217 9 = nI j := fun j => by rw [ma_Ik, if_pos rfl, if_pos rfl]
  have xi : ∀ j, pb_is (pb_pI h 217 9 (nI j)) 217 11 := fun j => mi_217 H
  have s0 := ma_id e9
  conv => lhs; rw [← s0]
  refine ma_we (p := sp_W) (B := B) (n := n) (i := i) (fun j => pb_pI h 217 9 (nI j)) hi (by omega) (fun j a b c e => ?_) (fun j a b c => ?_)
  · have z := m_179 (Es j) hn (e0 j) (by omega)
    rw [if_neg (by omega)] at z
    have y := tx_b (hB j c)
    simp only [f_180_0s, f_180_18, if_pos (xi j), z, Option.bind_some, e0, ma_oo, nI_1, y.1, y.2.1]
    unfold sp_W at e
    by_cases q : B j = 10
    · rw [if_pos q]
    · rw [if_neg q]
      have q2 : B j = 32 := by simpa [q] using e
      rw [if_neg (not_not_intro q2)]
  · subst a
    have z := m_179 (Es (sp_en sp_W B n i)) hn (e0 _) (sp_en_le hi)
    by_cases l : sp_en sp_W B n i < n
    · have e := c l
      generalize sp_en sp_W B n i = j at *
      rw [if_neg (by omega)] at z
      have y := tx_b (hB j l)
      unfold sp_W at e
      have q1 : ¬ B j = 32 := fun q => by simp [q] at e
      have q2 : ¬ B j = 10 := fun q => by simp [q] at e
      simp only [f_180_0s, f_180_18, if_pos (xi j), z, Option.bind_some, y.1, y.2.1, if_neg q2, if_pos q1]
    · rw [if_pos (by omega)] at z
      simp only [f_180_0s, f_180_18, if_pos (xi _), z, Option.bind_some, show ¬ ((-1 : Int32) = 10) by decide, show ¬ ((-1 : Int32) = 32) by decide, if_false, not_false_eq_true, if_true]
theorem m_180b (E : tx_E h B n) (hB : ∀ j, j < n → (B j).toInt8.toInt32 = B j) (hn : n ≤ 600) (hi : i ≤ n) (e9 : pb_I h 217 9 = nI i) (e14 : pb_J h 217 14 = 0) (hN : 3000 < N) : pb_wl (f_180_74s N 217) N (0, h) = some (nI (sp_en sp_A B n i - i), pb_pI (pb_pJ h 217 14 (sp_wd B i (sp_en sp_A B n i - i))) 217 9 (nI (sp_en sp_A B n i))) := by
  have H := E.1
  have Es : ∀ j v, tx_E (pb_pI (pb_pJ h 217 14 v) 217 9 (nI j)) B n := fun j v => ⟨H, by rw [ma_Ik, if_pos rfl, if_neg (by decide)]; exact E.2.1, fun k hk => by rw [ma_Ik, if_neg (by decide)]; exact E.2.2 k hk⟩
  have e0 : ∀ j v, pb_I (pb_pI (pb_pJ h 217 14 v) 217 9 (nI j)) 217 9 = nI j := fun j v => by rw [ma_Ik, if_pos rfl, if_pos rfl]
  have xi : ∀ j v, pb_is (pb_pI (pb_pJ h 217 14 v) 217 9 (nI j)) 217 11 := fun j v => mi_217 H
  have ej : ∀ j v, pb_J (pb_pI (pb_pJ h 217 14 v) 217 9 (nI j)) 217 14 = v := fun j v => ma_Jk h 217 14 v
  have en : ∀ j v w, pb_pJ (pb_pI (pb_pJ h 217 14 v) 217 9 (nI j)) 217 14 w = pb_pI (pb_pJ h 217 14 w) 217 9 (nI j) := fun j v w => by
    show pb_pI (pb_pJ (pb_pJ h 217 14 v) 217 14 w) 217 9 (nI j) = _
    rw [ma_ooJ]
  have s0 : h = pb_pI (pb_pJ h 217 14 (sp_wd B i (i - i))) 217 9 (nI i) := by
    rw [Nat.sub_self]
    have a1 : pb_pJ h 217 14 (sp_wd B i 0) = h := by
      refine Prod.ext rfl (Prod.ext rfl (Prod.ext (funext fun p => funext fun j => ?_) rfl))
      have e14 : h.2.2.1 217 14 = 0 := e14
      show va_up h.2.2.1 217 (vp_updL (h.2.2.1 217) 14 0) p j = h.2.2.1 p j
      unfold va_up vp_updL
      by_cases a : p = 217
      · by_cases b : j = 14
        · simp [a, b, e14]
        · simp [a, b]
      · simp [a]
    rw [a1]
    exact (ma_id e9).symm
  have s1 : ((0 : Int32), h) = (fun j => (nI (j - i), pb_pI (pb_pJ h 217 14 (sp_wd B i (j - i))) 217 9 (nI j))) i := by
    dsimp only
    rw [← s0, Nat.sub_self]
    rfl
  rw [s1]
  refine ma_we (p := sp_A) (B := B) (n := n) (i := i) (fun j => (nI (j - i), pb_pI (pb_pJ h 217 14 (sp_wd B i (j - i))) 217 9 (nI j))) hi (by omega) (fun j a b c e => ?_) (fun j a b c => ?_)
  · try dsimp only
    have z := m_179 (Es j (sp_wd B i (j - i))) hn (e0 j _) (by omega)
    rw [if_neg (by omega)] at z
    have y := tx_b (hB j c)
    have w1 : sp_wd B i (j + 1 - i) = (sp_wd B i (j - i) <<< (Int32.toInt64 8 &&& 63)) ||| Int32.toInt64 (B j &&& 255) := by
      rw [show j + 1 - i = (j - i) + 1 by omega]
      show (sp_wd B i (j - i) <<< (Int32.toInt64 8 &&& 63)) ||| Int32.toInt64 (B (i + (j - i)) &&& 255) = _
      rw [show i + (j - i) = j by omega]
    simp only [f_180_74s, if_pos (xi j _), z, Option.bind_some, y.2.2.2.1, e, if_true, i10, if_false, ej, en, e0, ma_oo, nI_1, pb_hb]
    rw [w1, show j + 1 - i = j - i + 1 by omega]
  · subst a
    try dsimp only
    have z := m_179 (Es (sp_en sp_A B n i) (sp_wd B i (sp_en sp_A B n i - i))) hn (e0 _ _) (sp_en_le hi)
    by_cases l : sp_en sp_A B n i < n
    · have e := c l
      generalize sp_en sp_A B n i = j at *
      rw [if_neg (by omega)] at z
      have y := tx_b (hB j l)
      simp only [f_180_74s, if_pos (xi j _), z, Option.bind_some, y.2.2.2.1, e, Bool.false_eq_true, if_false, if_true]
    · rw [if_pos (by omega)] at z
      simp only [f_180_74s, if_pos (xi _ _), z, Option.bind_some, show f_168 (-1) 97 122 = some 0 by decide, if_true]
theorem m_180c (E : tx_E h B n) (hB : ∀ j, j < n → (B j).toInt8.toInt32 = B j) (hn : n ≤ 600) (hi : i ≤ n) (e9 : pb_I h 217 9 = nI i) (e13 : pb_I h 217 13 = 0) (hN : 3000 < N) : pb_wl (f_180_163s N 217) N (0, h) = some (nI (sp_en sp_D B n i - i), pb_pI (pb_pI h 217 13 (nI (sp_vm B i (sp_en sp_D B n i - i)))) 217 9 (nI (sp_en sp_D B n i))) := by
  have H := E.1
  have Es : ∀ j v, tx_E (pb_pI (pb_pI h 217 13 v) 217 9 (nI j)) B n := fun j v => ⟨H, by rw [ma_Ik, if_pos rfl, if_neg (by decide), ma_Ik, if_pos rfl, if_neg (by decide)]; exact E.2.1, fun k hk => by rw [ma_Ik, if_neg (by decide), ma_Ik, if_neg (by decide)]; exact E.2.2 k hk⟩
  have e0 : ∀ j v, pb_I (pb_pI (pb_pI h 217 13 v) 217 9 (nI j)) 217 9 = nI j := fun j v => by rw [ma_Ik, if_pos rfl, if_pos rfl]
  have xi : ∀ j v, pb_is (pb_pI (pb_pI h 217 13 v) 217 9 (nI j)) 217 11 := fun j v => mi_217 H
  have ej : ∀ j v, pb_I (pb_pI (pb_pI h 217 13 v) 217 9 (nI j)) 217 13 = v := fun j v => by rw [ma_Ik, if_pos rfl, if_neg (by decide), ma_Ik, if_pos rfl, if_pos rfl]
  have en : ∀ j v w x, pb_pI (pb_pI (pb_pI (pb_pI h 217 13 v) 217 9 (nI j)) 217 13 w) 217 9 x = pb_pI (pb_pI h 217 13 w) 217 9 x := fun j v w x => by
    refine Prod.ext rfl (Prod.ext (funext fun p => funext fun q => ?_) rfl)
    show pb_I (pb_pI (pb_pI (pb_pI (pb_pI h 217 13 v) 217 9 (nI j)) 217 13 w) 217 9 x) p q = pb_I (pb_pI (pb_pI h 217 13 w) 217 9 x) p q
    simp only [ma_Ik]
    by_cases a : p = 217
    · by_cases b : q = 9
      · simp only [a, b, if_true]
      · by_cases c : q = 13
        · subst c; simp only [a, if_true]
        · simp only [a, b, c, if_true, if_false]
    · simp only [a, if_false]
  have e1 : ∀ j v w, pb_I (pb_pI (pb_pI (pb_pI h 217 13 v) 217 9 (nI j)) 217 13 w) 217 9 = nI j := fun j v w => by rw [ma_Ik, if_pos rfl, if_neg (by decide), ma_Ik, if_pos rfl, if_pos rfl]
  have s1 : ((0 : Int32), h) = (fun j => (nI (j - i), pb_pI (pb_pI h 217 13 (nI (sp_vm B i (j - i)))) 217 9 (nI j))) i := by
    dsimp only
    rw [Nat.sub_self]
    have a1 : pb_pI h 217 13 (nI (sp_vm B i 0)) = h := ma_id e13
    rw [a1, ma_id e9]
    rfl
  rw [s1]
  refine ma_we (p := sp_D) (B := B) (n := n) (i := i) (fun j => (nI (j - i), pb_pI (pb_pI h 217 13 (nI (sp_vm B i (j - i)))) 217 9 (nI j))) hi (by omega) (fun j a b c e => ?_) (fun j a b c => ?_)
  · try dsimp only
    have z := m_179 (Es j (nI (sp_vm B i (j - i)))) hn (e0 j _) (by omega)
    rw [if_neg (by omega)] at z
    have y := tx_b (hB j c)
    have y8 := y.2.2.2.2.2.2.2 e
    simp only [f_180_163s, if_pos (xi j _), z, Option.bind_some, y.2.2.2.2.1, e, if_true, i10, if_false, lA2 (show j - i < 2 ^ 31 by omega), f_180_205, ej, e1, en, nI_1]
    by_cases q : 2 ≤ j - i
    · rw [if_pos q]
      rw [show j + 1 - i = j - i + 1 by omega, show sp_vm B i (j - i + 1) = sp_vm B i (j - i) by unfold sp_vm; rw [if_neg (by omega), if_neg (by omega), if_neg (by omega), if_neg (by omega)]]
    · rw [if_neg q, y8.1, lI10, nI_add]
      have bd : sp_vm B i (j - i + 1) = 10 * sp_vm B i (j - i) + (B j).toNatClampNeg - 48 := by
        have : j = i ∨ j = i + 1 := by omega
        rcases this with w | w
        · subst w
          rw [Nat.sub_self]
          unfold sp_vm
          rw [if_neg (by omega), if_pos (by omega), if_pos rfl]
          omega
        · subst w
          rw [show i + 1 - i = 1 by omega]
          unfold sp_vm
          rw [if_neg (by omega), if_neg (by omega), if_neg (by omega), if_pos rfl]
          omega
      rw [lK48 (by omega), show j + 1 - i = j - i + 1 by omega, bd]
  · subst a
    try dsimp only
    have z := m_179 (Es (sp_en sp_D B n i) (nI (sp_vm B i (sp_en sp_D B n i - i)))) hn (e0 _ _) (sp_en_le hi)
    by_cases l : sp_en sp_D B n i < n
    · have e := c l
      generalize sp_en sp_D B n i = j at *
      rw [if_neg (by omega)] at z
      have y := tx_b (hB j l)
      simp only [f_180_163s, if_pos (xi j _), z, Option.bind_some, y.2.2.2.2.1, e, Bool.false_eq_true, if_false, if_true]
    · rw [if_pos (by omega)] at z
      simp only [f_180_163s, if_pos (xi _ _), z, Option.bind_some, show f_168 (-1) 48 57 = some 0 by decide, if_true]
theorem m_180 (E : tx_E h B n) (hB : ∀ j, j < n → (B j).toInt8.toInt32 = B j) (hn : n ≤ 600) (hi : i ≤ n) (e9 : pb_I h 217 9 = nI i) (hN : 3000 < N) : ∃ g, f_180 N h 217 = some g ∧ ma_fr [] [(217, 9), (217, 11), (217, 12), (217, 13)] h g ∧ tx_M g B n i := by
  have a0 := m_180a (N := N) E hB hn hi e9 hN
  have H := E.1
  have l : sp_en sp_W B n i ≤ n := sp_en_le hi
  have l1 : sp_en sp_A B n (sp_en sp_W B n i) ≤ n := sp_en_le l
  have l2 : sp_en sp_D B n (sp_en sp_W B n i) ≤ n := sp_en_le l
  have l3 : sp_en sp_W B n i ≤ sp_en sp_D B n (sp_en sp_W B n i) := sp_en_ge
  unfold tx_M sp_tk
  generalize sp_en sp_W B n i = a at *
  obtain ⟨k, ek⟩ : ∃ k, k = pb_pI (pb_pI h 217 9 (nI a)) 217 11 (nI a) := ⟨_, rfl⟩
  have k9 : pb_I k 217 9 = nI a := by rw [ek, ma_Ik, if_pos rfl, if_neg (by decide), ma_Ik, if_pos rfl, if_pos rfl]
  have k11 : pb_I k 217 11 = nI a := by rw [ek, ma_Ik, if_pos rfl, if_pos rfl]
  have Ek : tx_E k B n := by
    rw [ek]
    exact ⟨H, by rw [ma_Ik, if_pos rfl, if_neg (by decide), ma_Ik, if_pos rfl, if_neg (by decide)]; exact E.2.1, fun j hj => by rw [ma_Ik, if_neg (by decide), ma_Ik, if_neg (by decide)]; exact E.2.2 j hj⟩
  have fk : ma_fr [] [(217, 9), (217, 11), (217, 12), (217, 13)] h k := by rw [ek]; exact ma_fr_pI (ma_fr_pI (ma_fr_r _ _ _) (.inr (by decide)) _) (.inr (by decide)) _
  have Hk := Ek.1
  have z := m_179 Ek hn k9 l
  have x9 : pb_I (pb_pI h 217 9 (nI a)) 217 9 = nI a := by rw [ma_Ik, if_pos rfl, if_pos rfl]
  unfold f_180
  rw [a0, Option.bind_some, if_pos (mi_217 (h := pb_pI h 217 9 (nI a)) H), x9, ← ek, z, Option.bind_some]
  by_cases c1 : n ≤ a
  · rw [if_pos c1, if_pos c1, if_neg (by decide)]
    refine ⟨_, rfl, ma_fr_pI (ma_fr_pJ fk _ _ _) (.inr (by decide)) _, ?_, ?_, ?_, fun q => absurd (show (0 : Nat) = 2 from q) (by decide), fun q => absurd (show (0 : Nat) = 1 from q) (by decide)⟩
    · rw [ma_Ik, if_pos rfl, if_neg (by decide)]; exact k9
    · rw [ma_Ik, if_pos rfl, if_neg (by decide)]; exact k11
    · rw [ma_Ik, if_pos rfl, if_pos rfl]; rfl
  · have y := tx_b (hB a (by omega))
    rw [if_neg c1, if_neg c1, if_pos y.2.2.2.2.2.1, y.2.2.2.1, Option.bind_some]
    by_cases c2 : sp_A (B a) = true
    · have b1 := m_180b (N := N) (h := pb_pJ k 217 14 0) (i := a) Ek hB hn l k9 (ma_Jk k 217 14 0) hN
      rw [ma_ooJ] at b1
      rw [if_pos c2, if_neg (by decide), b1, Option.bind_some, if_pos c2]
      have l4 : a ≤ sp_en sp_A B n a := sp_en_ge
      generalize sp_en sp_A B n a = b at *
      have Hb : ∀ v, ma_H (pb_pI (pb_pJ k 217 14 v) 217 9 (nI b)) := fun v => Hk
      have jb : ∀ v, pb_J (pb_pI (pb_pJ k 217 14 v) 217 9 (nI b)) 217 14 = v := fun v => ma_Jk k 217 14 v
      simp only [lC8 (show b - a < 2 ^ 31 by omega), if_pos (mi_217 (Hb _)), f_180_136, jb]
      by_cases c3 : b - a ≤ 8
      · rw [if_pos c3]
        refine ⟨_, rfl, ma_fr_pI (ma_fr_pJ (ma_fr_pI (ma_fr_pJ fk _ _ _) (.inr (by decide)) _) _ _ _) (.inr (by decide)) _, ?_, ?_, ?_, fun q => absurd (show (1 : Nat) = 2 from q) (by decide), fun q => ?_⟩
        · rw [ma_Ik, if_pos rfl, if_neg (by decide), ma_I_pJ, ma_Ik, if_pos rfl, if_pos rfl]
        · rw [ma_Ik, if_pos rfl, if_neg (by decide), ma_I_pJ, ma_Ik, if_pos rfl, if_neg (by decide)]; exact k11
        · rw [ma_Ik, if_pos rfl, if_pos rfl]; rfl
        · rw [if_pos c3]; exact ma_Jk _ 217 14 _
      · rw [if_neg c3]
        refine ⟨_, rfl, ma_fr_pI (ma_fr_pJ (ma_fr_pI (ma_fr_pJ fk _ _ _) (.inr (by decide)) _) _ _ _) (.inr (by decide)) _, ?_, ?_, ?_, fun q => absurd (show (1 : Nat) = 2 from q) (by decide), fun q => ?_⟩
        · rw [ma_Ik, if_pos rfl, if_neg (by decide), ma_I_pJ, ma_Ik, if_pos rfl, if_pos rfl]
        · rw [ma_Ik, if_pos rfl, if_neg (by decide), ma_I_pJ, ma_Ik, if_pos rfl, if_neg (by decide)]; exact k11
        · rw [ma_Ik, if_pos rfl, if_pos rfl]; rfl
        · rw [if_neg c3]; exact ma_Jk _ 217 14 _
    · rw [if_neg c2, if_pos rfl, y.2.2.2.2.1, Option.bind_some, if_neg c2]
      by_cases c3 : sp_D (B a) = true
      · obtain ⟨m, em⟩ : ∃ m, m = pb_pI (pb_pJ k 217 14 0) 217 13 0 := ⟨_, rfl⟩
        have Em : tx_E m B n := by
          rw [em]
          exact ⟨Hk, by rw [ma_Ik, if_pos rfl, if_neg (by decide)]; exact Ek.2.1, fun j hj => by rw [ma_Ik, if_neg (by decide)]; exact Ek.2.2 j hj⟩
        have m9 : pb_I m 217 9 = nI a := by rw [em, ma_Ik, if_pos rfl, if_neg (by decide)]; exact k9
        have m11 : pb_I m 217 11 = nI a := by rw [em, ma_Ik, if_pos rfl, if_neg (by decide)]; exact k11
        have fm : ma_fr [] [(217, 9), (217, 11), (217, 12), (217, 13)] h m := by rw [em]; exact ma_fr_pI (ma_fr_pJ fk _ _ _) (.inr (by decide)) _
        have b1 := m_180c (N := N) (h := m) (i := a) Em hB hn l m9 (by rw [em, ma_Ik, if_pos rfl, if_pos rfl]) hN
        rw [← em, if_pos c3, if_neg (by decide), b1, Option.bind_some, if_pos c3]
        generalize sp_en sp_D B n a = b at *
        have fb : ma_fr [] [(217, 9), (217, 11), (217, 12), (217, 13)] h (pb_pI (pb_pI m 217 13 (nI (sp_vm B a (b - a)))) 217 9 (nI b)) := ma_fr_pI (ma_fr_pI fm (.inr (by decide)) _) (.inr (by decide)) _
        have Hb := ma_H_fr H fb
        have y9 : pb_I (pb_pI (pb_pI m 217 13 (nI (sp_vm B a (b - a)))) 217 9 (nI b)) 217 9 = nI b := by rw [ma_Ik, if_pos rfl, if_pos rfl]
        have y11 : pb_I (pb_pI (pb_pI m 217 13 (nI (sp_vm B a (b - a)))) 217 9 (nI b)) 217 11 = nI a := by rw [ma_Ik, if_pos rfl, if_neg (by decide), ma_Ik, if_pos rfl, if_neg (by decide)]; exact m11
        have y13 : pb_I (pb_pI (pb_pI m 217 13 (nI (sp_vm B a (b - a)))) 217 9 (nI b)) 217 13 = nI (sp_vm B a (b - a)) := by rw [ma_Ik, if_pos rfl, if_neg (by decide), ma_Ik, if_pos rfl, if_pos rfl]
        simp only [lC2 (show b - a < 2 ^ 31 by omega), f_180_235, if_pos (mi_217 Hb)]
        by_cases c4 : b - a ≤ 2
        · rw [if_pos c4, if_pos c4]
          refine ⟨_, rfl, ma_fr_pI fb (.inr (by decide)) _, ?_, ?_, ?_, fun q => ?_, fun q => absurd (show (2 : Nat) = 1 from q) (by decide)⟩
          · rw [ma_Ik, if_pos rfl, if_neg (by decide)]; exact y9
          · rw [ma_Ik, if_pos rfl, if_neg (by decide)]; exact y11
          · rw [ma_Ik, if_pos rfl, if_pos rfl]; rfl
          · rw [ma_Ik, if_pos rfl, if_neg (by decide)]; exact y13
        · rw [if_neg c4, if_neg c4]
          refine ⟨_, rfl, ma_fr_pI fb (.inr (by decide)) _, ?_, ?_, ?_, fun q => absurd (show (4 : Nat) = 2 from q) (by decide), fun q => absurd (show (4 : Nat) = 1 from q) (by decide)⟩
          · rw [ma_Ik, if_pos rfl, if_neg (by decide)]; exact y9
          · rw [ma_Ik, if_pos rfl, if_neg (by decide)]; exact y11
          · rw [ma_Ik, if_pos rfl, if_pos rfl]; rfl
      · have x9 : pb_I (pb_pJ k 217 14 0) 217 9 = nI a := k9
        rw [if_neg c3, if_pos rfl, if_neg c3, x9]
        obtain ⟨m, em⟩ : ∃ m, m = pb_pI (pb_pJ k 217 14 0) 217 9 (nI (a + 1)) := ⟨_, rfl⟩
        have Hm : ma_H m := by rw [em]; exact Hk
        have m9 : pb_I m 217 9 = nI (a + 1) := by rw [em, ma_Ik, if_pos rfl, if_pos rfl]
        have m11 : pb_I m 217 11 = nI a := by rw [em, ma_Ik, if_pos rfl, if_neg (by decide)]; exact k11
        have fm : ma_fr [] [(217, 9), (217, 11), (217, 12), (217, 13)] h m := by rw [em]; exact ma_fr_pI (ma_fr_pJ fk _ _ _) (.inr (by decide)) _
        simp only [nI_1, ← em, f_180_263, if_pos (mi_217 Hm), y.2.2.1]
        by_cases c4 : B a = 59
        · rw [if_neg (not_not_intro c4), if_pos c4]
          refine ⟨_, rfl, ma_fr_pI fm (.inr (by decide)) _, ?_, ?_, ?_, fun q => absurd (show (3 : Nat) = 2 from q) (by decide), fun q => absurd (show (3 : Nat) = 1 from q) (by decide)⟩
          · rw [ma_Ik, if_pos rfl, if_neg (by decide)]; exact m9
          · rw [ma_Ik, if_pos rfl, if_neg (by decide)]; exact m11
          · rw [ma_Ik, if_pos rfl, if_pos rfl]; rfl
        · rw [if_pos c4, if_neg c4]
          refine ⟨_, rfl, ma_fr_pI fm (.inr (by decide)) _, ?_, ?_, ?_, fun q => absurd (show (4 : Nat) = 2 from q) (by decide), fun q => absurd (show (4 : Nat) = 1 from q) (by decide)⟩
          · rw [ma_Ik, if_pos rfl, if_neg (by decide)]; exact m9
          · rw [ma_Ik, if_pos rfl, if_neg (by decide)]; exact m11
          · rw [ma_Ik, if_pos rfl, if_pos rfl]; rfl
end
