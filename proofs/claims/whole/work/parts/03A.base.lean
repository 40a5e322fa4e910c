/-! Plain mathematics over the methods' functions. -/
/-- a loop by its states -/
theorem ma_wl {S E : Type} {f : S → Option (S ⊕ E)} {e : E} (σ : Nat → S) : ∀ (n N i : Nat), i + n < N + i → (∀ j, i ≤ j → j < i + n → f (σ j) = some (.inl (σ (j + 1)))) → f (σ (i + n)) = some (.inr e) → pb_wl f N (σ i) = some e
  | 0, N, i, hN, _, he => by
    obtain ⟨M, rfl⟩ : ∃ M, N = M + 1 := ⟨N - 1, by omega⟩
    unfold pb_wl
    rw [show i + 0 = i from rfl] at he
    rw [he]
  | n + 1, N, i, hN, hs, he => by
    obtain ⟨M, rfl⟩ : ∃ M, N = M + 1 := ⟨N - 1, by omega⟩
    unfold pb_wl
    rw [hs i (Nat.le_refl _) (by omega)]
    exact ma_wl σ n M (i + 1) (by omega) (fun j h1 h2 => hs j (by omega) (by omega)) (by rw [show i + 1 + n = i + (n + 1) by omega]; exact he)
/-- a loop that counts from 0 to n -/
theorem ma_for {S E : Type} {f : S → Option (S ⊕ E)} {e : E} {s0 : S} (σ : Nat → S) (n N : Nat) (h0 : s0 = σ 0) (hN : n < N) (hs : ∀ j, j < n → f (σ j) = some (.inl (σ (j + 1)))) (he : f (σ n) = some (.inr e)) : pb_wl f N s0 = some e := by
  subst h0
  exact ma_wl σ n N 0 (by omega) (fun j _ h => hs j (by omega)) (by rw [Nat.zero_add]; exact he)
theorem ma_31 {k : Nat} (hk : k < 32) : ((nI k &&& 31).toBitVec.smod 32).toNat = k := by
  have : ∀ k : Fin 32, ((nI k.val &&& 31).toBitVec.smod 32).toNat = k.val := by decide
  exact this ⟨k, hk⟩
theorem ma_shr {s k : Nat} (hs : s < 2 ^ 31) (hk : k < 32) : nI s >>> (nI k &&& 31) = nI (s / 2 ^ k) := pk_shrN hs _ k (ma_31 hk)
theorem ma_and1 (s : Nat) (hs : s < 2 ^ 32) : nI s &&& 1 = nI (s % 2) := pk_andN hs 1 (by decide)
theorem ma_bit {s k : Nat} (hs : s < 2 ^ 31) (hk : k < 32) : (nI s >>> (nI k &&& 31)) &&& 1 = if s.testBit k then 1 else 0 := by
  have h2 : s / 2 ^ k < 2 ^ 32 := Nat.lt_of_le_of_lt (Nat.div_le_self _ _) (by omega)
  rw [ma_shr hs hk, ma_and1 _ h2, Nat.testBit_eq_decide_div_mod_eq]
  rcases Nat.mod_two_eq_zero_or_one (s / 2 ^ k) with q | q
  · rw [q]; rfl
  · rw [q]; rfl
theorem ma_has {s k : Nat} (hs : s < 2 ^ 31) (hk : k < 32) : f_169 (nI s) (nI k) = some (if s.testBit k then 1 else 0) := by
  unfold f_169
  rw [ma_bit hs hk]
  cases s.testBit k <;> rfl
theorem ma_in {a b c : Nat} (ha : a < 2 ^ 31) (hb : b < 2 ^ 31) (hc : c < 2 ^ 31) : f_168 (nI a) (nI b) (nI c) = some (if b ≤ a ∧ a ≤ c then 1 else 0) := by
  unfold f_168
  rw [nI_ltI ha hb, nI_ltI hc ha]
  by_cases h1 : a < b
  · rw [if_pos h1, if_neg (by omega)]
  · rw [if_neg h1]
    by_cases h2 : c < a
    · rw [if_pos h2, if_neg (by omega)]
    · rw [if_neg h2, if_pos (by omega)]
def ma_cnt (p : Nat → Bool) : Nat → Nat
  | 0 => 0
  | n + 1 => ma_cnt p n + if p n then 1 else 0
theorem ma_cnt_le (p : Nat → Bool) : ∀ n, ma_cnt p n ≤ n
  | 0 => Nat.le_refl _
  | n + 1 => by
    have := ma_cnt_le p n
    unfold ma_cnt
    split <;> omega
theorem ma_ones {N s : Nat} (hs : s < 2 ^ 31) (hN : 6 < N) : f_172 N (nI s) = some (nI (ma_cnt s.testBit 6)) := by
  unfold f_172
  have h : pb_wl (f_172_4s N (nI s)) N (0, 0) = some (nI (ma_cnt s.testBit 6)) := by
    refine ma_for (fun i => (nI (ma_cnt s.testBit i), nI i)) 6 N rfl hN (fun j hj => ?_) ?_
    · unfold f_172_4s
      have hlt : ¬ (6 : Int32) ≤ nI j := nI_ge (a := j) (b := 6) hj (by omega)
      dsimp only
      rw [if_neg hlt, ma_has hs (by omega)]
      dsimp only [Option.bind]
      unfold f_172_24 ma_cnt
      cases s.testBit j
      · rw [if_pos (by rfl)]
        dsimp only
        rw [nI_1]
        congr 3
        exact Int32.add_zero _
      · rw [if_neg (by decide)]
        dsimp only
        rw [nI_1, nI_1]
        rfl
    · rfl
  rw [h]
  rfl
