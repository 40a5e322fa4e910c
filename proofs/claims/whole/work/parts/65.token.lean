/-! text: tokens, and how the developers take the next -/
def sp_W (b : Int32) : Bool := decide (b = 32) || decide (b = 10)
def sp_A (b : Int32) : Bool := decide (97 ≤ b) && decide (b ≤ 122)
def sp_D (b : Int32) : Bool := decide (48 ≤ b) && decide (b ≤ 57)
/-- where, from i on and at most at n, p ends -/
def sp_en (p : Int32 → Bool) (B : Nat → Int32) (n i : Nat) : Nat := ma_fi (fun j => !p (B j)) (n - i) i
theorem ma_fi_sp (q : Nat → Bool) : ∀ m i, i ≤ ma_fi q m i ∧ ma_fi q m i ≤ i + m ∧ (∀ j, i ≤ j → j < ma_fi q m i → q j = false) ∧ (ma_fi q m i < i + m → q (ma_fi q m i) = true)
  | 0, i => by
    refine ⟨Nat.le_refl _, Nat.le_refl _, fun j a b => ?_, fun a => ?_⟩
    · exact absurd (show j < i from b) (by omega)
    · exact absurd (show i < i + 0 from a) (by omega)
  | m + 1, i => by
    have ih := ma_fi_sp q m (i + 1)
    unfold ma_fi
    cases e : q i with
    | true =>
      rw [if_pos rfl]
      exact ⟨Nat.le_refl _, by omega, fun j a b => absurd b (by omega), fun _ => e⟩
    | false =>
      rw [if_neg (by decide)]
      refine ⟨by omega, by omega, fun j a b => ?_, fun a => ih.2.2.2 (by omega)⟩
      by_cases c : j = i
      · rw [c]; exact e
      · exact ih.2.2.1 j (by omega) b
section
variable {p : Int32 → Bool} {B : Nat → Int32} {n i : Nat}
theorem sp_en_ge : i ≤ sp_en p B n i := (ma_fi_sp _ _ _).1
theorem sp_en_le (h : i ≤ n) : sp_en p B n i ≤ n := by
  have := (ma_fi_sp (fun j => !p (B j)) (n - i) i).2.1
  unfold sp_en; omega
theorem sp_en_in {j : Nat} (a : i ≤ j) (b : j < sp_en p B n i) : p (B j) = true := by
  have := (ma_fi_sp (fun j => !p (B j)) (n - i) i).2.2.1 j a b
  simpa using this
theorem sp_en_st (h : i ≤ n) (b : sp_en p B n i < n) : p (B (sp_en p B n i)) = false := by
  have := (ma_fi_sp (fun j => !p (B j)) (n - i) i).2.2.2 (by have : ma_fi (fun j => !p (B j)) (n - i) i < n := b; omega)
  unfold sp_en
  simpa using this
theorem sp_en_gt (h : i < n) (a : p (B i) = true) : i < sp_en p B n i := by
  have g : i ≤ sp_en p B n i := sp_en_ge
  rcases Nat.lt_or_ge i (sp_en p B n i) with z | z
  · exact z
  · have e : sp_en p B n i = i := by omega
    have := sp_en_st (p := p) (B := B) (n := n) (i := i) (by omega) (by omega)
    rw [e, a] at this
    exact absurd this (by decide)
/-- a loop that goes on while p holds -/
theorem ma_we {S E : Type} {f : S → Option (S ⊕ E)} {e : E} (σ : Nat → S) {N : Nat} (hi : i ≤ n) (hN : n - i < N) (hs : ∀ j, i ≤ j → j < sp_en p B n i → j < n → p (B j) = true → f (σ j) = some (.inl (σ (j + 1)))) (he : ∀ j, j = sp_en p B n i → j ≤ n → (j < n → p (B j) = false) → f (σ j) = some (.inr e)) : pb_wl f N (σ i) = some e := by
  have g : i ≤ sp_en p B n i := sp_en_ge
  have l : sp_en p B n i ≤ n := sp_en_le hi
  refine ma_wl σ (sp_en p B n i - i) N i (by omega) (fun j a b => hs j a (by omega) (by omega) (sp_en_in (n := n) a (by omega))) ?_
  rw [show i + (sp_en p B n i - i) = sp_en p B n i by omega]
  exact he _ rfl l (fun z => sp_en_st hi z)
end
/-- what the next token is (0 over, 1 word, 2 number, 3 stop, 4 none), where it begins, where it ends -/
def sp_tk (B : Nat → Int32) (n i : Nat) : Nat × Nat × Nat :=
  if n ≤ sp_en sp_W B n i then (0, sp_en sp_W B n i, sp_en sp_W B n i)
  else if sp_A (B (sp_en sp_W B n i)) then (1, sp_en sp_W B n i, sp_en sp_A B n (sp_en sp_W B n i))
  else if sp_D (B (sp_en sp_W B n i)) then (if sp_en sp_D B n (sp_en sp_W B n i) - sp_en sp_W B n i ≤ 2 then 2 else 4, sp_en sp_W B n i, sp_en sp_D B n (sp_en sp_W B n i))
  else (if B (sp_en sp_W B n i) = 59 then 3 else 4, sp_en sp_W B n i, sp_en sp_W B n i + 1)
theorem sp_tk_b {B : Nat → Int32} {n i : Nat} (h : i ≤ n) : i ≤ (sp_tk B n i).2.1 ∧ (sp_tk B n i).2.1 ≤ n ∧ (sp_tk B n i).2.2 ≤ n ∧ (sp_tk B n i).1 ≤ 4 ∧ ((sp_tk B n i).1 = 0 → (sp_tk B n i).2.1 = n ∧ (sp_tk B n i).2.2 = n) ∧ ((sp_tk B n i).1 ≠ 0 → (sp_tk B n i).2.1 < (sp_tk B n i).2.2) := by
  have g : i ≤ sp_en sp_W B n i := sp_en_ge
  have l : sp_en sp_W B n i ≤ n := sp_en_le h
  unfold sp_tk
  by_cases c1 : n ≤ sp_en sp_W B n i
  · rw [if_pos c1]
    dsimp only
    omega
  · rw [if_neg c1]
    have l1 : sp_en sp_A B n (sp_en sp_W B n i) ≤ n := sp_en_le l
    have l2 : sp_en sp_D B n (sp_en sp_W B n i) ≤ n := sp_en_le l
    by_cases c2 : sp_A (B (sp_en sp_W B n i)) = true
    · rw [if_pos c2]
      have := sp_en_gt (p := sp_A) (B := B) (n := n) (i := sp_en sp_W B n i) (by omega) c2
      dsimp only
      omega
    · rw [if_neg c2]
      by_cases c3 : sp_D (B (sp_en sp_W B n i)) = true
      · rw [if_pos c3]
        have := sp_en_gt (p := sp_D) (B := B) (n := n) (i := sp_en sp_W B n i) (by omega) c3
        dsimp only
        split <;> omega
      · rw [if_neg c3]
        dsimp only
        split <;> omega
theorem ma_oo (h : pb_HP) (o k : Nat) (v w : Int32) : pb_pI (pb_pI h o k v) o k w = pb_pI h o k w := by
  refine Prod.ext rfl (Prod.ext (funext fun p => funext fun j => ?_) rfl)
  show pb_I (pb_pI (pb_pI h o k v) o k w) p j = pb_I (pb_pI h o k w) p j
  simp only [ma_Ik]
  by_cases a : p = o
  · by_cases b : j = k
    · simp only [a, b, if_true]
    · simp only [a, b, if_true, if_false]
  · simp only [a, if_false]
theorem ma_id {h : pb_HP} {o k : Nat} {v : Int32} (e : pb_I h o k = v) : pb_pI h o k v = h := by
  refine Prod.ext rfl (Prod.ext (funext fun p => funext fun j => ?_) rfl)
  show pb_I (pb_pI h o k v) p j = pb_I h p j
  rw [ma_Ik]
  by_cases a : p = o
  · by_cases b : j = k
    · rw [if_pos a, if_pos b, a, b, e]
    · rw [if_pos a, if_neg b, a]
  · rw [if_neg a]
theorem lK48 {j : Nat} (h : 48 ≤ j) : nI j - (48 : Int32) = nI (j - 48) := pk_sub h
theorem c_89 (b : Int32) : f_89 b = some (if sp_A b then 1 else 0) := by
  unfold f_89 sp_A
  by_cases c : b < 97
  · have : ¬ (97 : Int32) ≤ b := Int32.not_le.mpr c
    rw [if_pos c]; simp only [this, decide_false, Bool.false_and, Bool.false_eq_true, if_false]
  · have c1 : (97 : Int32) ≤ b := Int32.not_lt.mp c
    rw [if_neg c]
    by_cases d : 122 < b
    · have : ¬ b ≤ 122 := Int32.not_le.mpr d
      rw [if_pos d]; simp only [this, decide_false, Bool.and_false, Bool.false_eq_true, if_false]
    · have d1 : b ≤ 122 := Int32.not_lt.mp d
      rw [if_neg d]; simp only [c1, d1, decide_true, Bool.and_true, if_true]
theorem c_90 (b : Int32) : f_90 b = some (if sp_D b then 1 else 0) := by
  unfold f_90 sp_D
  by_cases c : b < 48
  · have : ¬ (48 : Int32) ≤ b := Int32.not_le.mpr c
    rw [if_pos c]; simp only [this, decide_false, Bool.false_and, Bool.false_eq_true, if_false]
  · have c1 : (48 : Int32) ≤ b := Int32.not_lt.mp c
    rw [if_neg c]
    by_cases d : 57 < b
    · have : ¬ b ≤ 57 := Int32.not_le.mpr d
      rw [if_pos d]; simp only [this, decide_false, Bool.and_false, Bool.false_eq_true, if_false]
    · have d1 : b ≤ 57 := Int32.not_lt.mp d
      rw [if_neg d]; simp only [c1, d1, decide_true, Bool.and_true, if_true]
/-- the developers' reader at place i of a tape -/
def tx_D (h : pb_HP) (B : Nat → Int32) (n i : Nat) : Prop := ma_H h ∧ pb_R h 163 5 = some 40 ∧ pb_I h 163 6 = nI n ∧ (∀ j, j < n → pb_I h 40 j = B j) ∧ pb_I h 163 9 = nI i
section
variable {h : pb_HP} {N n i : Nat} {B : Nat → Int32}
theorem c_88a (D : tx_D h B n i) (hn : n ≤ 600) (hi : i ≤ n) (hN : 3000 < N) : pb_wl (f_88_8s N 163) N (pb_pI h 163 8 (nI i)) = some (pb_pI h 163 8 (nI (sp_en sp_W B n i))) := by
  obtain ⟨H, t, d6, dB, d9⟩ := D
  have x6 : ∀ j, pb_I (pb_pI h 163 8 (nI j)) 163 6 = nI n := fun j => by rw [ma_Ik, if_pos rfl, if_neg (by decide)]; exact d6
  have x8 : ∀ j, pb_I (pb_pI h 163 8 (nI j)) 163 8 = nI j := fun j => by rw [ma_Ik, if_pos rfl, if_pos rfl]
  have xB : ∀ j k, k < n → pb_I (pb_pI h 163 8 (nI j)) 40 k = B k := fun j k hk => by rw [ma_Ik, if_neg (by decide)]; exact dB k hk
  have xi : ∀ j, pb_is (pb_pI h 163 8 (nI j)) 163 6 := fun j => mi_163 H
  have xr : ∀ j, pb_R (pb_pI h 163 8 (nI j)) 163 5 = some 40 := fun j => t
  refine ma_we (p := sp_W) (B := B) (n := n) (i := i) (fun j => pb_pI h 163 8 (nI j)) hi (by omega) (fun j a b c e => ?_) (fun j a b c => ?_)
  · have xa : pb_ar (pb_pI h 163 8 (nI j)) 40 13 (nI j) := mx_40 H (by omega)
    have e0 : ¬ nI n ≤ nI j := nI_ge c (by omega)
    simp only [f_88_8s, f_88_47, if_pos (xi j), x6, x8, if_neg e0, xr, Option.bind_some, if_pos xa, nI_clamp (show j < 2 ^ 31 by omega), xB j j c, ma_oo, nI_1]
    unfold sp_W at e
    by_cases q : B j = 32
    · rw [if_pos q]
    · rw [if_neg q]
      have q2 : B j = 10 := by simpa [q] using e
      rw [if_neg (not_not_intro q2)]
  · subst a
    by_cases z : sp_en sp_W B n i < n
    · have xa : pb_ar (pb_pI h 163 8 (nI (sp_en sp_W B n i))) 40 13 (nI (sp_en sp_W B n i)) := mx_40 H (by omega)
      have e0 : ¬ nI n ≤ nI (sp_en sp_W B n i) := nI_ge z (by omega)
      have e := c z
      generalize sp_en sp_W B n i = j at *
      unfold sp_W at e
      have q1 : ¬ B j = 32 := fun q => by simp [q] at e
      have q2 : ¬ B j = 10 := fun q => by simp [q] at e
      simp only [f_88_8s, f_88_47, if_pos (xi j), x6, x8, if_neg e0, xr, Option.bind_some, if_pos xa, nI_clamp (show j < 2 ^ 31 by omega), xB j j z, if_neg q1, if_pos q2]
    · have e0 : nI n ≤ nI (sp_en sp_W B n i) := nI_le (by omega) (by omega)
      simp only [f_88_8s, if_pos (xi _), x6, x8, if_pos e0]
theorem c_88b (H : ma_H h) (t : pb_R h 163 5 = some 40) (d6 : pb_I h 163 6 = nI n) (dB : ∀ j, j < n → pb_I h 40 j = B j) (hn : n ≤ 600) (hi : i ≤ n) (hN : 3000 < N) : pb_wl (f_88_107s N 163) N (pb_pI h 163 9 (nI i)) = some (pb_pI h 163 9 (nI (sp_en sp_A B n i))) ∧ pb_wl (f_88_161s N 163) N (pb_pI h 163 9 (nI i)) = some (pb_pI h 163 9 (nI (sp_en sp_D B n i))) := by
  have x6 : ∀ j, pb_I (pb_pI h 163 9 (nI j)) 163 6 = nI n := fun j => by rw [ma_Ik, if_pos rfl, if_neg (by decide)]; exact d6
  have x8 : ∀ j, pb_I (pb_pI h 163 9 (nI j)) 163 9 = nI j := fun j => by rw [ma_Ik, if_pos rfl, if_pos rfl]
  have xB : ∀ j k, k < n → pb_I (pb_pI h 163 9 (nI j)) 40 k = B k := fun j k hk => by rw [ma_Ik, if_neg (by decide)]; exact dB k hk
  have xi : ∀ j, pb_is (pb_pI h 163 9 (nI j)) 163 6 := fun j => mi_163 H
  have xr : ∀ j, pb_R (pb_pI h 163 9 (nI j)) 163 5 = some 40 := fun j => t
  constructor
  · refine ma_we (p := sp_A) (B := B) (n := n) (i := i) (fun j => pb_pI h 163 9 (nI j)) hi (by omega) (fun j a b c e => ?_) (fun j a b c => ?_)
    · have xa : pb_ar (pb_pI h 163 9 (nI j)) 40 13 (nI j) := mx_40 H (by omega)
      have e0 : ¬ nI n ≤ nI j := nI_ge c (by omega)
      simp only [f_88_107s, if_pos (xi j), x6, x8, if_neg e0, xr, Option.bind_some, if_pos xa, nI_clamp (show j < 2 ^ 31 by omega), xB j j c, ma_oo, nI_1, c_89, e, if_true, i10, if_false]
    · subst a
      by_cases z : sp_en sp_A B n i < n
      · have xa : pb_ar (pb_pI h 163 9 (nI (sp_en sp_A B n i))) 40 13 (nI (sp_en sp_A B n i)) := mx_40 H (by omega)
        have e0 : ¬ nI n ≤ nI (sp_en sp_A B n i) := nI_ge z (by omega)
        have e := c z
        generalize sp_en sp_A B n i = j at *
        simp only [f_88_107s, if_pos (xi j), x6, x8, if_neg e0, xr, Option.bind_some, if_pos xa, nI_clamp (show j < 2 ^ 31 by omega), xB j j z, c_89, e, Bool.false_eq_true, if_false, if_true]
      · have e0 : nI n ≤ nI (sp_en sp_A B n i) := nI_le (by omega) (by omega)
        simp only [f_88_107s, if_pos (xi _), x6, x8, if_pos e0]
  · refine ma_we (p := sp_D) (B := B) (n := n) (i := i) (fun j => pb_pI h 163 9 (nI j)) hi (by omega) (fun j a b c e => ?_) (fun j a b c => ?_)
    · have xa : pb_ar (pb_pI h 163 9 (nI j)) 40 13 (nI j) := mx_40 H (by omega)
      have e0 : ¬ nI n ≤ nI j := nI_ge c (by omega)
      simp only [f_88_161s, if_pos (xi j), x6, x8, if_neg e0, xr, Option.bind_some, if_pos xa, nI_clamp (show j < 2 ^ 31 by omega), xB j j c, ma_oo, nI_1, c_90, e, if_true, i10, if_false]
    · subst a
      by_cases z : sp_en sp_D B n i < n
      · have xa : pb_ar (pb_pI h 163 9 (nI (sp_en sp_D B n i))) 40 13 (nI (sp_en sp_D B n i)) := mx_40 H (by omega)
        have e0 : ¬ nI n ≤ nI (sp_en sp_D B n i) := nI_ge z (by omega)
        have e := c z
        generalize sp_en sp_D B n i = j at *
        simp only [f_88_161s, if_pos (xi j), x6, x8, if_neg e0, xr, Option.bind_some, if_pos xa, nI_clamp (show j < 2 ^ 31 by omega), xB j j z, c_90, e, Bool.false_eq_true, if_false, if_true]
      · have e0 : nI n ≤ nI (sp_en sp_D B n i) := nI_le (by omega) (by omega)
        simp only [f_88_161s, if_pos (xi _), x6, x8, if_pos e0]
theorem c_88 (D : tx_D h B n i) (hn : n ≤ 600) (hi : i ≤ n) (hN : 3000 < N) : ∃ g, f_88 N h 163 = some g ∧ ma_fr [] [(163, 7), (163, 8), (163, 9)] h g ∧ pb_I g 163 7 = nI (sp_tk B n i).1 ∧ pb_I g 163 8 = nI (sp_tk B n i).2.1 ∧ pb_I g 163 9 = nI (sp_tk B n i).2.2 := by
  have a0 := c_88a (N := N) D hn hi hN
  obtain ⟨H, t, d6, dB, d9⟩ := D
  have g0 : i ≤ sp_en sp_W B n i := sp_en_ge
  have l : sp_en sp_W B n i ≤ n := sp_en_le hi
  have l1 : sp_en sp_A B n (sp_en sp_W B n i) ≤ n := sp_en_le l
  have l2 : sp_en sp_D B n (sp_en sp_W B n i) ≤ n := sp_en_le l
  have l3 : sp_en sp_W B n i ≤ sp_en sp_D B n (sp_en sp_W B n i) := sp_en_ge
  unfold sp_tk
  generalize sp_en sp_W B n i = a at *
  obtain ⟨k, ek⟩ : ∃ k, k = pb_pI h 163 8 (nI a) := ⟨_, rfl⟩
  obtain ⟨m, em⟩ : ∃ m, m = pb_pI k 163 9 (nI a) := ⟨_, rfl⟩
  have Hk : ma_H k := by rw [ek]; exact H
  have Hm : ma_H m := by rw [em]; exact Hk
  have tm : pb_R m 163 5 = some 40 := by rw [em, ek]; exact t
  have tk : pb_R k 163 5 = some 40 := by rw [ek]; exact t
  have k8 : pb_I k 163 8 = nI a := by rw [ek, ma_Ik, if_pos rfl, if_pos rfl]
  have m8 : pb_I m 163 8 = nI a := by rw [em, ma_Ik, if_pos rfl, if_neg (by decide)]; exact k8
  have m9 : pb_I m 163 9 = nI a := by rw [em, ma_Ik, if_pos rfl, if_pos rfl]
  have m6 : pb_I m 163 6 = nI n := by rw [em, ma_Ik, if_pos rfl, if_neg (by decide), ek, ma_Ik, if_pos rfl, if_neg (by decide)]; exact d6
  have mB : ∀ j, j < n → pb_I m 40 j = B j := fun j hj => by rw [em, ma_Ik, if_neg (by decide), ek, ma_Ik, if_neg (by decide)]; exact dB j hj
  have fm : ma_fr [] [(163, 7), (163, 8), (163, 9)] h m := by rw [em, ek]; exact ma_fr_pI (ma_fr_pI (ma_fr_r _ _ _) (.inr (by decide)) _) (.inr (by decide)) _
  have e1 : f_88 N h 163 = f_88_60 N k 163 := by simp only [f_88, if_pos (mi_163 H), d9, a0, Option.bind_some, ek]
  rw [e1]
  unfold f_88_60
  simp only [if_pos (mi_163 Hk), k8, ← em, m8, m6, m9, tk, Option.bind_some]
  by_cases c1 : n ≤ a
  · have ea : ¬ nI a < nI n := fun z => by have := (nI_ltI (show a < 2 ^ 31 by omega) (show n < 2 ^ 31 by omega)).mp z; omega
    rw [if_neg ea, if_pos c1]
    refine ⟨_, rfl, ma_fr_pI fm (.inr (by decide)) _, ?_, ?_, ?_⟩
    · rw [ma_Ik, if_pos rfl, if_pos rfl]; rfl
    · rw [ma_Ik, if_pos rfl, if_neg (by decide)]; exact m8
    · rw [ma_Ik, if_pos rfl, if_neg (by decide)]; exact m9
  · have ea : nI a < nI n := (nI_ltI (show a < 2 ^ 31 by omega) (show n < 2 ^ 31 by omega)).mpr (by omega)
    have xa : pb_ar k 40 13 (nI a) := mx_40 Hk (by omega)
    have ca : (nI a).toNatClampNeg = a := nI_clamp (show a < 2 ^ 31 by omega)
    rw [if_pos ea, if_pos xa, ca, mB a (by omega), c_89, Option.bind_some, if_neg c1]
    by_cases c2 : sp_A (B a) = true
    · have b1 := (c_88b (N := N) (h := pb_pI m 163 7 1) (i := a) (n := n) (B := B) Hm tm (by rw [ma_Ik, if_pos rfl, if_neg (by decide)]; exact m6) (fun j hj => by rw [ma_Ik, if_neg (by decide)]; exact mB j hj) hn l hN).1
      have b2 : pb_pI (pb_pI m 163 7 1) 163 9 (nI a) = pb_pI m 163 7 1 := ma_id (by rw [ma_Ik, if_pos rfl, if_neg (by decide)]; exact m9)
      rw [b2] at b1
      rw [if_pos c2, if_neg (by decide), b1, Option.bind_some, if_pos c2]
      refine ⟨_, rfl, ma_fr_pI (ma_fr_pI fm (.inr (by decide)) _) (.inr (by decide)) _, ?_, ?_, ?_⟩
      · rw [ma_Ik, if_pos rfl, if_neg (by decide), ma_Ik, if_pos rfl, if_pos rfl]; rfl
      · rw [ma_Ik, if_pos rfl, if_neg (by decide), ma_Ik, if_pos rfl, if_neg (by decide)]; exact m8
      · rw [ma_Ik, if_pos rfl, if_pos rfl]
    · rw [if_neg c2, if_pos rfl, c_90, Option.bind_some, if_neg c2]
      by_cases c3 : sp_D (B a) = true
      · have b1 := (c_88b (N := N) (h := m) (i := a) (n := n) (B := B) Hm tm m6 mB hn l hN).2
        have b2 : pb_pI m 163 9 (nI a) = m := by rw [em, ma_oo]
        rw [b2] at b1
        rw [if_pos c3, if_neg (by decide), b1, Option.bind_some, if_pos c3]
        generalize sp_en sp_D B n a = b at *
        have Hb : ma_H (pb_pI m 163 9 (nI b)) := Hm
        have y9 : pb_I (pb_pI m 163 9 (nI b)) 163 9 = nI b := by rw [ma_Ik, if_pos rfl, if_pos rfl]
        have y8 : pb_I (pb_pI m 163 9 (nI b)) 163 8 = nI a := by rw [ma_Ik, if_pos rfl, if_neg (by decide)]; exact m8
        simp only [f_88_200, f_88_219, if_pos (mi_163 Hb), y9, y8, pk_sub l3, lB2 (show b - a < 2 ^ 31 by omega)]
        by_cases c4 : b - a ≤ 2
        · rw [if_neg (show ¬ 2 < b - a by omega), if_pos c4]
          refine ⟨_, rfl, ma_fr_pI (ma_fr_pI fm (.inr (by decide)) _) (.inr (by decide)) _, ?_, ?_, ?_⟩
          · rw [ma_Ik, if_pos rfl, if_pos rfl]; rfl
          · rw [ma_Ik, if_pos rfl, if_neg (by decide)]; exact y8
          · rw [ma_Ik, if_pos rfl, if_neg (by decide)]; exact y9
        · rw [if_pos (show 2 < b - a by omega), if_neg c4]
          refine ⟨_, rfl, ma_fr_pI (ma_fr_pI fm (.inr (by decide)) _) (.inr (by decide)) _, ?_, ?_, ?_⟩
          · rw [ma_Ik, if_pos rfl, if_pos rfl]; rfl
          · rw [ma_Ik, if_pos rfl, if_neg (by decide)]; exact y8
          · rw [ma_Ik, if_pos rfl, if_neg (by decide)]; exact y9
      · have Hb : ma_H (pb_pI m 163 9 (nI (a + 1))) := Hm
        have y9 : pb_I (pb_pI m 163 9 (nI (a + 1))) 163 9 = nI (a + 1) := by rw [ma_Ik, if_pos rfl, if_pos rfl]
        have y8 : pb_I (pb_pI m 163 9 (nI (a + 1))) 163 8 = nI a := by rw [ma_Ik, if_pos rfl, if_neg (by decide)]; exact m8
        have yB : pb_I (pb_pI m 163 9 (nI (a + 1))) 40 a = B a := by rw [ma_Ik, if_neg (by decide)]; exact mB a (by omega)
        rw [if_neg c3, if_pos rfl, if_neg c3]
        simp only [nI_1, y8, if_pos xa, ca, yB, f_88_255, if_pos (mi_163 Hb)]
        by_cases c4 : B a = 59
        · rw [if_neg (not_not_intro c4), if_pos c4]
          refine ⟨_, rfl, ma_fr_pI (ma_fr_pI fm (.inr (by decide)) _) (.inr (by decide)) _, ?_, ?_, ?_⟩
          · rw [ma_Ik, if_pos rfl, if_pos rfl]; rfl
          · rw [ma_Ik, if_pos rfl, if_neg (by decide)]; exact y8
          · rw [ma_Ik, if_pos rfl, if_neg (by decide)]; exact y9
        · rw [if_pos c4, if_neg c4]
          refine ⟨_, rfl, ma_fr_pI (ma_fr_pI fm (.inr (by decide)) _) (.inr (by decide)) _, ?_, ?_, ?_⟩
          · rw [ma_Ik, if_pos rfl, if_pos rfl]; rfl
          · rw [ma_Ik, if_pos rfl, if_neg (by decide)]; exact y8
          · rw [ma_Ik, if_pos rfl, if_neg (by decide)]; exact y9
end
