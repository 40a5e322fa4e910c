/-! wings: the first division that will do, by trying on and by numbers -/
def wg_u (w : Nat → Nat) (c t : Nat) : Nat → Nat := fun o => if o = c then t else w o
/-- the first of n from t on that has an answer -/
def wg_f (f : Nat → Option (Nat → Nat)) : Nat → Nat → Option (Nat → Nat)
  | 0, _ => none
  | n + 1, t => if (f t).isSome then f t else wg_f f n (t + 1)
/-- the father of c goes with those ahead -/
def wg_ok (K : ma_K) (w : Nat → Nat) (c : Nat) : Bool := decide (c ≤ ma_fi (fun o => decide (w o = w c) && (K 5 o &&& K 5 c != 0)) c 0)
def wg_D (K : ma_K) (m : Nat) : Nat → Nat → (Nat → Nat) → Option (Nat → Nat)
  | 0, _, w => some w
  | d + 1, c, w => if K 4 c = 0 then wg_D K m d (c + 1) (wg_u w c 6) else wg_f (fun t => if wg_ok K (wg_u w c t) c then wg_D K m d (c + 1) (wg_u w c t) else none) m 0
/-- no two that fear the same are together, of those below n -/
def wg_c (K : ma_K) (w : Nat → Nat) (n : Nat) : Prop := ∀ a, a < n → ∀ b, b < a → w a = w b → w a < 6 → K 5 a &&& K 5 b = 0
def wg_cb (K : ma_K) (w : Nat → Nat) (n : Nat) : Bool := decide (n ≤ ma_fi (fun a => decide (ma_fi (fun b => decide (w a = w b) && (decide (w a < 6) && (K 5 a &&& K 5 b != 0))) a 0 < a)) n 0)
theorem wg_ok_i {K : ma_K} {w : Nat → Nat} {c : Nat} : wg_ok K w c = true ↔ ∀ o, o < c → w o = w c → K 5 o &&& K 5 c = 0 := by
  have f := ma_fi_sp (fun o => decide (w o = w c) && (K 5 o &&& K 5 c != 0)) c 0
  unfold wg_ok
  generalize ma_fi (fun o => decide (w o = w c) && (K 5 o &&& K 5 c != 0)) c 0 = r at *
  rw [decide_eq_true_iff]
  constructor
  · intro h o ho e
    have := f.2.2.1 o (by omega) (by omega)
    simpa [e] using this
  · intro h
    rcases Nat.lt_or_ge r c with z | z
    · have := f.2.2.2 (by omega)
      simp at this
      exact absurd (h r z this.1) this.2
    · exact z
theorem wg_cb_i {K : ma_K} {w : Nat → Nat} {n : Nat} : wg_cb K w n = true ↔ wg_c K w n := by
  have f := ma_fi_sp (fun a => decide (ma_fi (fun b => decide (w a = w b) && (decide (w a < 6) && (K 5 a &&& K 5 b != 0))) a 0 < a)) n 0
  have g : ∀ a, (ma_fi (fun b => decide (w a = w b) && (decide (w a < 6) && (K 5 a &&& K 5 b != 0))) a 0 < a) ↔ ¬ ∀ b, b < a → w a = w b → w a < 6 → K 5 a &&& K 5 b = 0 := fun a => by
    have k := ma_fi_sp (fun b => decide (w a = w b) && (decide (w a < 6) && (K 5 a &&& K 5 b != 0))) a 0
    generalize ma_fi (fun b => decide (w a = w b) && (decide (w a < 6) && (K 5 a &&& K 5 b != 0))) a 0 = r at *
    constructor
    · intro h q
      have := k.2.2.2 (by omega)
      simp at this
      exact absurd (q r h this.1 this.2.1) this.2.2
    · intro h
      rcases Nat.lt_or_ge r a with z | z
      · exact z
      · refine absurd (fun b hb e l => ?_) h
        have := k.2.2.1 b (by omega) (by omega)
        simp at this
        exact this e l
  unfold wg_cb wg_c
  generalize ma_fi (fun a => decide (ma_fi (fun b => decide (w a = w b) && (decide (w a < 6) && (K 5 a &&& K 5 b != 0))) a 0 < a)) n 0 = r at *
  rw [decide_eq_true_iff]
  constructor
  · intro h a ha
    have := f.2.2.1 a (by omega) (by omega)
    have := of_decide_eq_false this
    rw [g a] at this
    exact Classical.not_not.mp this
  · intro h
    rcases Nat.lt_or_ge r n with z | z
    · have := f.2.2.2 (by omega)
      have := of_decide_eq_true this
      rw [g r] at this
      exact absurd (h r z) this
    · exact z
/-- trying all, without looking ahead -/
def wg_E (K : ma_K) (m : Nat) : Nat → Nat → (Nat → Nat) → Option (Nat → Nat)
  | 0, c, w => if wg_cb K w c then some w else none
  | d + 1, c, w => if K 4 c = 0 then wg_E K m d (c + 1) (wg_u w c 6) else wg_f (fun t => wg_E K m d (c + 1) (wg_u w c t)) m 0
theorem wg_f_c {f g : Nat → Option (Nat → Nat)} : ∀ n t, (∀ i, t ≤ i → i < t + n → f i = g i) → wg_f f n t = wg_f g n t
  | 0, _, _ => rfl
  | n + 1, t, h => by
    unfold wg_f
    rw [h t (Nat.le_refl _) (by omega), wg_f_c n (t + 1) (fun i a b => h i (by omega) (by omega))]
theorem wg_f_n {f : Nat → Option (Nat → Nat)} : ∀ n t, (∀ i, t ≤ i → i < t + n → f i = none) → wg_f f n t = none
  | 0, _, _ => rfl
  | n + 1, t, h => by
    unfold wg_f
    rw [h t (Nat.le_refl _) (by omega), if_neg (by decide)]
    exact wg_f_n n (t + 1) (fun i a b => h i (by omega) (by omega))
theorem wg_f_s {f : Nat → Option (Nat → Nat)} : ∀ n t i, t ≤ i → i < t + n → f i ≠ none → wg_f f n t ≠ none
  | 0, t, i, a, b, _ => by omega
  | n + 1, t, i, a, b, h => by
    unfold wg_f
    by_cases c : (f t).isSome
    · rw [if_pos c]
      intro q
      rw [q] at c
      exact absurd c (by decide)
    · rw [if_neg c]
      refine wg_f_s n (t + 1) i ?_ (by omega) h
      by_cases e : i = t
      · rw [e] at h
        cases q : f t with
        | none => exact absurd q h
        | some x => rw [q] at c; exact absurd rfl c
      · omega
theorem wg_c_u {K : ma_K} {w w' : Nat → Nat} {n : Nat} (e : ∀ o, o < n → w' o = w o) : wg_c K w n → wg_c K w' n := fun h a ha b hb p q => by
  rw [e a ha, e b (by omega)] at p
  rw [e a ha] at q
  exact h a ha b hb p q
/-- what has been found wrong stays wrong -/
theorem wg_E_n {K : ma_K} {m : Nat} : ∀ d c n w, n ≤ c → ¬ wg_c K w n → wg_E K m d c w = none
  | 0, c, n, w, hn, h => by
    unfold wg_E
    rw [if_neg (fun q => h (fun a ha => (wg_cb_i.mp q) a (by omega)))]
  | d + 1, c, n, w, hn, h => by
    unfold wg_E
    have e : ∀ t, wg_E K m d (c + 1) (wg_u w c t) = none := fun t => wg_E_n d (c + 1) n (wg_u w c t) (by omega) (fun q => h (wg_c_u (fun o ho => by unfold wg_u; rw [if_neg (by omega)]) q))
    split
    · exact e 6
    · exact wg_f_n _ _ (fun i _ _ => e i)
theorem wg_D_E {K : ma_K} {m : Nat} (hm : m ≤ 6) : ∀ d c w, wg_c K w c → wg_D K m d c w = wg_E K m d c w
  | 0, c, w, h => by
    unfold wg_D wg_E
    rw [if_pos (wg_cb_i.mpr h)]
  | d + 1, c, w, h => by
    have st : ∀ t, (t = 6 ∨ (∀ o, o < c → wg_u w c t o = wg_u w c t c → K 5 o &&& K 5 c = 0)) → wg_c K (wg_u w c t) (c + 1) := fun t q a ha b hb p r => by
      by_cases e : a = c
      · rw [e] at p r hb ⊢
        rcases q with q | q
        · rw [q] at r
          unfold wg_u at r
          rw [if_pos rfl] at r
          exact absurd r (by decide)
        · rw [Nat.and_comm]; exact q b hb p.symm
      · unfold wg_u at p r
        rw [if_neg e, if_neg (by omega)] at p
        rw [if_neg e] at r
        exact h a (by omega) b hb p r
    unfold wg_D wg_E
    split
    · exact wg_D_E hm d (c + 1) _ (st 6 (.inl rfl))
    · refine wg_f_c m 0 (fun t _ ht => ?_)
      by_cases q : wg_ok K (wg_u w c t) c = true
      · rw [if_pos q]
        exact wg_D_E hm d (c + 1) _ (st t (.inr (wg_ok_i.mp q)))
      · rw [if_neg q]
        refine (wg_E_n d (c + 1) (c + 1) _ (Nat.le_refl _) (fun z => q (wg_ok_i.mpr (fun o ho e => ?_)))).symm
        have : wg_u w c t c = t := if_pos rfl
        rw [Nat.and_comm]
        exact z c (by omega) o ho e.symm (by omega)
/-- six wings will always do -/
theorem wg_E_6 {K : ma_K} : ∀ d c w, c + d ≤ 6 → (∀ o, o < c → w o = o ∨ w o = 6) → wg_E K 6 d c w ≠ none
  | 0, c, w, _, h => by
    unfold wg_E
    rw [if_pos (wg_cb_i.mpr (fun a ha b hb p q => by
      rcases h a ha with x | x
      · rcases h b (by omega) with y | y
        · omega
        · omega
      · omega))]
    exact fun q => absurd q (by simp)
  | d + 1, c, w, hd, h => by
    have st : ∀ t, (t = c ∨ t = 6) → ∀ o, o < c + 1 → wg_u w c t o = o ∨ wg_u w c t o = 6 := fun t q o ho => by
      unfold wg_u
      by_cases e : o = c
      · rw [if_pos e]; omega
      · rw [if_neg e]; exact h o (by omega)
    unfold wg_E
    split
    · exact wg_E_6 d (c + 1) _ (by omega) (st 6 (.inr rfl))
    · exact wg_f_s 6 0 c (by omega) (by omega) (wg_E_6 d (c + 1) _ (by omega) (st c (.inl rfl)))
/-- how many fathers are in, from child c on -/
def wg_I (K : ma_K) (n : Nat) : Nat → Nat
  | 0 => 0
  | d + 1 => (if K 4 (n - (d + 1)) = 0 then 0 else 1) + wg_I K n d
/-- the division of a number -/
def wg_y (K : ma_K) (n m x : Nat) : Nat → Nat := fun o => if K 4 o = 0 then 6 else x / m ^ wg_I K n (n - (o + 1)) % m
theorem wg_fi {q : Nat → Bool} : ∀ a b i, ma_fi q (a + b) i = if ma_fi q a i < i + a then ma_fi q a i else ma_fi q b (i + a)
  | 0, b, i => by
    rw [Nat.zero_add]
    show _ = if i < i + 0 then i else _
    rw [if_neg (by omega), Nat.add_zero]
  | a + 1, b, i => by
    have s : ∀ n, ma_fi q (n + 1) i = if q i then i else ma_fi q n (i + 1) := fun _ => rfl
    rw [show a + 1 + b = (a + b) + 1 by omega, s, s]
    by_cases c : q i = true
    · rw [if_pos c, if_pos c, if_pos (by omega)]
    · rw [if_neg c, if_neg c, wg_fi a b (i + 1), show i + 1 + a = i + (a + 1) by omega]
/-- trying all is trying all numbers -/
theorem wg_num {K : ma_K} {n m : Nat} (hm : 0 < m) : ∀ d c w a, c + d = n → (∀ x, a * m ^ wg_I K n d ≤ x → x < (a + 1) * m ^ wg_I K n d → ∀ o, o < c → wg_y K n m x o = w o) → ((ma_fi (fun x => wg_cb K (wg_y K n m x) n) (m ^ wg_I K n d) (a * m ^ wg_I K n d) < (a + 1) * m ^ wg_I K n d → ∃ w', wg_E K m d c w = some w' ∧ ∀ o, o < n → w' o = wg_y K n m (ma_fi (fun x => wg_cb K (wg_y K n m x) n) (m ^ wg_I K n d) (a * m ^ wg_I K n d)) o) ∧ ((a + 1) * m ^ wg_I K n d ≤ ma_fi (fun x => wg_cb K (wg_y K n m x) n) (m ^ wg_I K n d) (a * m ^ wg_I K n d) → wg_E K m d c w = none))
  | 0, c, w, a, hc, h => by
    have hc : c = n := by omega
    subst hc
    have p1 : m ^ wg_I K c 0 = 1 := rfl
    rw [p1] at h ⊢
    rw [Nat.mul_one, Nat.mul_one] at *
    have ag := h a (Nat.le_refl _) (by omega)
    have e : wg_cb K w c = wg_cb K (wg_y K c m a) c := by
      rw [Bool.eq_iff_iff, wg_cb_i, wg_cb_i]
      exact ⟨wg_c_u ag, wg_c_u (fun o ho => (ag o ho).symm)⟩
    unfold wg_E
    rw [e]
    unfold ma_fi
    by_cases q : wg_cb K (wg_y K c m a) c = true
    · rw [if_pos q, if_pos q]
      exact ⟨fun _ => ⟨w, rfl, fun o ho => (ag o ho).symm⟩, fun z => absurd z (by omega)⟩
    · rw [if_neg q, if_neg q]
      refine ⟨fun z => absurd z ?_, fun _ => rfl⟩
      show ¬ a + 1 < a + 1
      omega
  | d + 1, c, w, a, hc, h => by
    have nc : n - (d + 1) = c := by omega
    have dc : n - (c + 1) = d := by omega
    unfold wg_E
    by_cases k4 : K 4 c = 0
    · have pI : wg_I K n (d + 1) = wg_I K n d := by
        show (if K 4 (n - (d + 1)) = 0 then 0 else 1) + wg_I K n d = _
        rw [nc, if_pos k4]; omega
      rw [pI] at h ⊢
      rw [if_pos k4]
      refine wg_num hm d (c + 1) (wg_u w c 6) a (by omega) (fun x x1 x2 o ho => ?_)
      unfold wg_u
      by_cases e : o = c
      · rw [if_pos e, e]; unfold wg_y; rw [if_pos k4]
      · rw [if_neg e]; exact h x x1 x2 o (by omega)
    · have pI : wg_I K n (d + 1) = wg_I K n d + 1 := by
        show (if K 4 (n - (d + 1)) = 0 then 0 else 1) + wg_I K n d = _
        rw [nc, if_neg k4]; omega
      rw [pI] at h ⊢
      rw [if_neg k4]
      obtain ⟨M, eM⟩ : ∃ M, M = m ^ wg_I K n d := ⟨_, rfl⟩
      have pM : m ^ (wg_I K n d + 1) = m * M := by rw [eM, Nat.pow_succ, Nat.mul_comm]
      rw [pM] at h ⊢
      have M0 : 0 < M := by rw [eM]; exact Nat.pow_pos hm
      -- one of the blocks
      have blk : ∀ t, t < m → ∀ x, (a * m + t) * M ≤ x → x < (a * m + t + 1) * M → ∀ o, o < c + 1 → wg_y K n m x o = wg_u w c t o := fun t ht x x1 x2 o ho => by
        unfold wg_u
        by_cases e : o = c
        · rw [if_pos e, e]
          unfold wg_y
          rw [if_neg k4, dc, ← eM]
          have : x / M = a * m + t := by
            rw [Nat.div_eq_iff M0]
            have : (a * m + t + 1) * M = (a * m + t) * M + M := by rw [Nat.add_mul (a * m + t) 1 M, Nat.one_mul]
            constructor
            · omega
            · omega
          rw [this, Nat.add_comm, Nat.add_mul_mod_self_right, Nat.mod_eq_of_lt ht]
        · rw [if_neg e]
          refine h x ?_ ?_ o (by omega)
          · have : a * (m * M) ≤ (a * m + t) * M := by rw [Nat.add_mul, Nat.mul_assoc]; omega
            omega
          · have q : (a * m + t + 1) * M ≤ (a * m + m) * M := Nat.mul_le_mul_right M (by omega)
            have r : (a + 1) * (m * M) = (a * m + m) * M := by rw [Nat.add_mul, Nat.one_mul, Nat.add_mul, Nat.mul_assoc]
            omega
      have key : ∀ j t, t + j = m → ((ma_fi (fun x => wg_cb K (wg_y K n m x) n) (j * M) ((a * m + t) * M) < (a + 1) * (m * M) → ∃ w', wg_f (fun t => wg_E K m d (c + 1) (wg_u w c t)) j t = some w' ∧ ∀ o, o < n → w' o = wg_y K n m (ma_fi (fun x => wg_cb K (wg_y K n m x) n) (j * M) ((a * m + t) * M)) o) ∧ ((a + 1) * (m * M) ≤ ma_fi (fun x => wg_cb K (wg_y K n m x) n) (j * M) ((a * m + t) * M) → wg_f (fun t => wg_E K m d (c + 1) (wg_u w c t)) j t = none)) := by
        intro j
        induction j with
        | zero =>
          intro t ht
          rw [Nat.zero_mul]
          have r : (a + 1) * (m * M) = (a * m + t) * M := by rw [show t = m by omega, Nat.add_mul, Nat.one_mul, Nat.add_mul, Nat.mul_assoc]
          refine ⟨fun z => absurd z ?_, fun _ => rfl⟩
          rw [r]
          exact Nat.lt_irrefl _
        | succ j ih =>
          intro t ht
          have ih := ih (t + 1) (by omega)
          have b := wg_num (K := K) (n := n) hm d (c + 1) (wg_u w c t) (a * m + t) (by omega) (by rw [← eM]; exact blk t (by omega))
          rw [← eM] at b
          have fs := ma_fi_sp (fun x => wg_cb K (wg_y K n m x) n) M ((a * m + t) * M)
          have s1 : (a * m + t + 1) * M = (a * m + t) * M + M := by rw [Nat.add_mul (a * m + t) 1 M, Nat.one_mul]
          have s2 : (a * m + (t + 1)) * M = (a * m + t) * M + M := by rw [← Nat.add_assoc]; exact s1
          have r : (a + 1) * (m * M) = (a * m + m) * M := by rw [Nat.add_mul, Nat.one_mul, Nat.add_mul, Nat.mul_assoc]
          have s3 : (a * m + t) * M + M ≤ (a + 1) * (m * M) := by
            rw [r, ← s1]; exact Nat.mul_le_mul_right M (by omega)
          have sp : ma_fi (fun x => wg_cb K (wg_y K n m x) n) ((j + 1) * M) ((a * m + t) * M) = if ma_fi (fun x => wg_cb K (wg_y K n m x) n) M ((a * m + t) * M) < (a * m + t) * M + M then ma_fi (fun x => wg_cb K (wg_y K n m x) n) M ((a * m + t) * M) else ma_fi (fun x => wg_cb K (wg_y K n m x) n) (j * M) ((a * m + t) * M + M) := by
            rw [show (j + 1) * M = M + j * M by rw [Nat.add_mul, Nat.one_mul, Nat.add_comm]]
            exact wg_fi M (j * M) _
          rw [s1] at b
          rw [s2] at ih
          rw [sp]
          unfold wg_f
          by_cases q : ma_fi (fun x => wg_cb K (wg_y K n m x) n) M ((a * m + t) * M) < (a * m + t) * M + M
          · rw [if_pos q]
            obtain ⟨w', u1, u2⟩ := b.1 q
            rw [u1, if_pos (show (some w').isSome = true from rfl)]
            exact ⟨fun _ => ⟨w', rfl, u2⟩, fun z => absurd z (by omega)⟩
          · rw [if_neg q]
            rw [b.2 (by omega), if_neg (by decide)]
            exact ih
      have fin := key m 0 (by omega)
      rw [Nat.add_zero, Nat.mul_assoc] at fin
      exact fin
