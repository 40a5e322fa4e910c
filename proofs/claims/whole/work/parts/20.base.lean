/-! Plain mathematics over the methods' functions: loops, numbers, the heap's cells. -/
def ma_fo {A : Type} (g : Nat → A → A) : Nat → A → A
  | 0, a => a
  | n + 1, a => g n (ma_fo g n a)
theorem ma_wl {S E : Type} {f : S → Option (S ⊕ E)} {e : E} (σ : Nat → S) : ∀ (n N i : Nat), n < N → (∀ j, i ≤ j → j < i + n → f (σ j) = some (.inl (σ (j + 1)))) → f (σ (i + n)) = some (.inr e) → pb_wl f N (σ i) = some e
  | 0, N, i, hN, _, he => by
    obtain ⟨M, rfl⟩ : ∃ M, N = M + 1 := ⟨N - 1, by omega⟩
    unfold pb_wl
    rw [show i + 0 = i from rfl] at he
    rw [he]
  | n + 1, N, i, hN, hs, he => by
    obtain ⟨M, rfl⟩ : ∃ M, N = M + 1 := ⟨N - 1, by omega⟩
    unfold pb_wl
    rw [hs i (Nat.le_refl _) (by omega)]
    exact ma_wl σ n M (i + 1) (by omega) (fun j h1 h2 => hs j (by omega) (by omega)) (by rw [show i + 1 + n = i + (n + 1) by omega]; exact he)
/-- a loop that counts from 0 to n: its states by a fold, with an invariant -/
theorem ma_lp {S E A : Type} {f : S → Option (S ⊕ E)} {e : E} {s0 : S} (σ : Nat → A → S) (g : Nat → A → A) (P : Nat → A → Prop) (n : Nat) {N : Nat} {a0 : A} (hN : n < N) (h0 : P 0 a0) (hs0 : s0 = σ 0 a0) (hs : ∀ j a, j < n → P j a → P (j + 1) (g j a) ∧ f (σ j a) = some (.inl (σ (j + 1) (g j a)))) (he : P n (ma_fo g n a0) → f (σ n (ma_fo g n a0)) = some (.inr e)) : pb_wl f N s0 = some e := by
  subst hs0
  have hP : ∀ j, j ≤ n → P j (ma_fo g j a0) := by
    intro j
    induction j with
    | zero => intro _; exact h0
    | succ j ih => intro hj; exact (hs j _ (by omega) (ih (by omega))).1
  refine ma_wl (fun j => σ j (ma_fo g j a0)) n N 0 hN (fun j _ hj => ?_) ?_
  · exact (hs j _ (by omega) (hP j (by omega))).2
  · rw [Nat.zero_add]; exact he (hP n (Nat.le_refl _))
theorem ma_fo_inv {A : Type} {g : Nat → A → A} {P : Nat → A → Prop} {a0 : A} (h0 : P 0 a0) : ∀ n, (∀ j a, j < n → P j a → P (j + 1) (g j a)) → P n (ma_fo g n a0)
  | 0, _ => h0
  | n + 1, hs => hs n _ (Nat.lt_succ_self n) (ma_fo_inv h0 n (fun j a hj => hs j a (by omega)))
theorem ma_fo_cong {A : Type} {g g' : Nat → A → A} {a0 : A} : ∀ n, (∀ j a, j < n → g j a = g' j a) → ma_fo g n a0 = ma_fo g' n a0
  | 0, _ => rfl
  | n + 1, h => by
    show g n (ma_fo g n a0) = g' n (ma_fo g' n a0)
    rw [ma_fo_cong n (fun j a hj => h j a (by omega))]
    exact h n _ (Nat.lt_succ_self n)
/-- the same without an invariant -/
theorem ma_lq {S E A : Type} {f : S → Option (S ⊕ E)} {e : E} {s0 : S} (σ : Nat → A → S) (g : Nat → A → A) (n : Nat) {N : Nat} {a0 : A} (hN : n < N) (hs0 : s0 = σ 0 a0) (hs : ∀ j a, j < n → f (σ j a) = some (.inl (σ (j + 1) (g j a)))) (he : f (σ n (ma_fo g n a0)) = some (.inr e)) : pb_wl f N s0 = some e :=
  ma_lp σ g (fun _ _ => True) n hN trivial hs0 (fun j a hj _ => ⟨trivial, hs j a hj⟩) (fun _ => he)
/-- a loop that looks for the first one -/
def ma_fi (p : Nat → Bool) : Nat → Nat → Nat
  | 0, i => i
  | n + 1, i => if p i then i else ma_fi p n (i + 1)
/-- a number or none: -1 is 0, n is n + 1 -/
def mI (n : Nat) : Int32 := nI n - 1
theorem mI_0 : mI 0 = -1 := rfl
theorem mI_s (n : Nat) : mI (n + 1) = nI n := nI_pred n
theorem mI_toInt {n : Nat} (h : n < 2 ^ 31) : (mI n).toInt = (n : Int) - 1 := by
  cases n with
  | zero => rfl
  | succ n => rw [mI_s, nI_toInt (by omega)]; omega
theorem mI_lt {a b : Nat} (ha : a < 2 ^ 31) (hb : b < 2 ^ 31) : mI a < mI b ↔ a < b := by
  rw [Int32.lt_iff_toInt_lt, mI_toInt ha, mI_toInt hb]; omega
theorem mI_le {a b : Nat} (ha : a < 2 ^ 31) (hb : b < 2 ^ 31) : mI a ≤ mI b ↔ a ≤ b := by
  rw [Int32.le_iff_toInt_le, mI_toInt ha, mI_toInt hb]; omega
theorem mI_eq {a b : Nat} (ha : a < 2 ^ 31) (hb : b < 2 ^ 31) : mI a = mI b ↔ a = b := by
  rw [← Int32.toInt_inj, mI_toInt ha, mI_toInt hb]; omega
/-! literals against numbers -/
theorem ma_l_le (n : Nat) {j : Nat} (hn : n < 2 ^ 31) (hj : j < 2 ^ 31) : ((OfNat.ofNat n : Int32) ≤ nI j) ↔ n ≤ j := nI_leI hn hj
theorem ma_l_lt (n : Nat) {j : Nat} (hn : n < 2 ^ 31) (hj : j < 2 ^ 31) : ((OfNat.ofNat n : Int32) < nI j) ↔ n < j := nI_ltI hn hj
theorem ma_le_l (n : Nat) {j : Nat} (hn : n < 2 ^ 31) (hj : j < 2 ^ 31) : (nI j ≤ (OfNat.ofNat n : Int32)) ↔ j ≤ n := nI_leI hj hn
theorem ma_lt_l (n : Nat) {j : Nat} (hn : n < 2 ^ 31) (hj : j < 2 ^ 31) : (nI j < (OfNat.ofNat n : Int32)) ↔ j < n := nI_ltI hj hn
theorem ma_eq_l (n : Nat) {j : Nat} (hn : n < 2 ^ 31) (hj : j < 2 ^ 31) : (nI j = (OfNat.ofNat n : Int32)) ↔ j = n := nI_eq hj hn
/-! bits -/
theorem ma_31 {k : Nat} (hk : k < 32) : ((nI k &&& 31).toBitVec.smod 32).toNat = k := by
  have : ∀ k : Fin 32, ((nI k.val &&& 31).toBitVec.smod 32).toNat = k.val := by decide
  exact this ⟨k, hk⟩
theorem ma_shr {s k : Nat} (hs : s < 2 ^ 31) (hk : k < 32) : nI s >>> (nI k &&& 31) = nI (s / 2 ^ k) := pk_shrN hs _ k (ma_31 hk)
theorem ma_shl {k : Nat} (hk : k < 31) : (1 : Int32) <<< (nI k &&& 31) = nI (2 ^ k) := by
  have : ∀ k : Fin 31, (1 : Int32) <<< (nI k.val &&& 31) = nI (2 ^ k.val) := by decide
  exact this ⟨k, hk⟩
theorem ma_bit {s k : Nat} (hs : s < 2 ^ 31) (hk : k < 32) : (nI s >>> (nI k &&& 31)) &&& 1 = if s.testBit k then 1 else 0 := by
  have h2 : s / 2 ^ k < 2 ^ 32 := Nat.lt_of_le_of_lt (Nat.div_le_self _ _) (by omega)
  have h3 : nI (s / 2 ^ k) &&& 1 = nI (s / 2 ^ k % 2) := pk_andN h2 1 (by decide)
  rw [ma_shr hs hk, h3, Nat.testBit_eq_decide_div_mod_eq]
  rcases Nat.mod_two_eq_zero_or_one (s / 2 ^ k) with q | q
  · rw [q]; rfl
  · rw [q]; rfl
theorem ma_has {s k : Nat} (hs : s < 2 ^ 31) (hk : k < 32) : f_169 (nI s) (nI k) = some (if s.testBit k then 1 else 0) := by
  unfold f_169
  rw [ma_bit hs hk]
  cases s.testBit k <;> rfl
theorem ma_in {a b c : Nat} (ha : a < 2 ^ 31) (hb : b < 2 ^ 31) (hc : c < 2 ^ 31) : f_168 (nI a) (nI b) (nI c) = some (if b ≤ a ∧ a ≤ c then 1 else 0) := by
  unfold f_168
  simp only [nI_ltI ha hb, nI_ltI hc ha]
  by_cases h1 : a < b
  · rw [if_pos h1, if_neg (by omega)]
  · rw [if_neg h1]
    by_cases h2 : c < a
    · rw [if_pos h2, if_neg (by omega)]
    · rw [if_neg h2, if_pos (by omega)]
theorem ma_b0 (b : Bool) : ((if b then (1 : Int32) else 0) = 0) = (b = false) := by cases b <;> simp
theorem ma_p0 (p : Prop) [Decidable p] : ((if p then (1 : Int32) else 0) = 0) = ¬ p := by by_cases h : p <;> simp [h]
/-! the heap's cells -/
theorem ma_I_pI (h : pb_HP) (o k : Nat) (v : Int32) (o' : Nat) : pb_I (pb_pI h o k v) o' = if o' = o then upd (pb_I h o) k v else pb_I h o' := rfl
theorem ma_I_pW (h : pb_HP) (o : Nat) (f : Nat → Int32) (o' : Nat) : pb_I (pb_pW h o f) o' = if o' = o then f else pb_I h o' := rfl
theorem ma_R_pI (h : pb_HP) (o k : Nat) (v : Int32) : pb_R (pb_pI h o k v) = pb_R h := rfl
theorem ma_R_pW (h : pb_HP) (o : Nat) (f : Nat → Int32) : pb_R (pb_pW h o f) = pb_R h := rfl
theorem ma_1_pI (h : pb_HP) (o k : Nat) (v : Int32) : (pb_pI h o k v).1 = h.1 := rfl
theorem ma_1_pW (h : pb_HP) (o : Nat) (f : Nat → Int32) : (pb_pW h o f).1 = h.1 := rfl
theorem ma_ar {h : pb_HP} {o c n j : Nat} (hn : h.1 = 241) (ho : o < 241) (hs : pb_SH o = (c, n)) (hj : j < n) (h31 : n < 2 ^ 31) : pb_ar h o c (nI j) := by
  refine ⟨⟨by omega, by rw [hs]⟩, nI_pos' (by omega), ?_⟩
  rw [nI_clamp (by omega), hs]; exact hj
theorem ma_is {h : pb_HP} {o c n : Nat} (hn : h.1 = 241) (ho : o < 241) (hs : pb_SH o = (c, n)) : pb_is h o c := ⟨by omega, by rw [hs]⟩
/-- what a call leaves: all but some objects (and some cells) stay -/
def ma_fr (L : List Nat) (F : List (Nat × Nat)) (h h' : pb_HP) : Prop := h'.1 = h.1 ∧ pb_R h' = pb_R h ∧ ∀ o k, o ∉ L → (o, k) ∉ F → pb_I h' o k = pb_I h o k
theorem ma_fr_r (L : List Nat) (F : List (Nat × Nat)) (h : pb_HP) : ma_fr L F h h := ⟨rfl, rfl, fun _ _ _ _ => rfl⟩
theorem ma_fr_t {L : List Nat} {F : List (Nat × Nat)} {h h' h'' : pb_HP} (a : ma_fr L F h h') (b : ma_fr L F h' h'') : ma_fr L F h h'' :=
  ⟨b.1.trans a.1, b.2.1.trans a.2.1, fun o k ho hk => (b.2.2 o k ho hk).trans (a.2.2 o k ho hk)⟩
theorem ma_fr_w {L L' : List Nat} {F F' : List (Nat × Nat)} {h h' : pb_HP} (a : ma_fr L F h h') (hL : ∀ o, o ∈ L → o ∈ L') (hF : ∀ q, q ∈ F → q.1 ∈ L' ∨ q ∈ F') : ma_fr L' F' h h' :=
  ⟨a.1, a.2.1, fun o k ho hk => a.2.2 o k (fun q => ho (hL o q)) (fun q => (hF _ q).elim ho hk)⟩
theorem ma_fr_pI {L : List Nat} {F : List (Nat × Nat)} {h h' : pb_HP} {o k : Nat} (a : ma_fr L F h h') (ho : o ∈ L ∨ (o, k) ∈ F) (v : Int32) : ma_fr L F h (pb_pI h' o k v) :=
  ⟨a.1, a.2.1, fun p i hp hi => by
    rw [ma_I_pI]
    by_cases e : p = o
    · subst e
      rw [if_pos rfl]
      have : i ≠ k := fun q => ho.elim hp (q ▸ hi)
      rw [pk_un this]
      exact a.2.2 p i hp hi
    · rw [if_neg e]; exact a.2.2 p i hp hi⟩
theorem ma_fr_pW {L : List Nat} {F : List (Nat × Nat)} {h h' : pb_HP} {o : Nat} (a : ma_fr L F h h') (ho : o ∈ L) (f : Nat → Int32) : ma_fr L F h (pb_pW h' o f) :=
  ⟨a.1, a.2.1, fun p i hp hi => by
    rw [ma_I_pW, if_neg (fun e : p = o => hp (e ▸ ho))]; exact a.2.2 p i hp hi⟩
theorem ma_fr_o {L : List Nat} {F : List (Nat × Nat)} {h h' : pb_HP} {o : Nat} (a : ma_fr L F h h') (ho : o ∉ L) (hF : o ∉ F.map Prod.fst) : pb_I h' o = pb_I h o :=
  funext fun k => a.2.2 o k ho (fun q => hF (List.mem_map.mpr ⟨_, q, rfl⟩))
/-- a loop by what holds at its states; it may end ahead of time -/
theorem ma_lh {S E : Type} {f : S → Option (S ⊕ E)} (Q : Nat → S → Prop) (T : E → Prop) (n : Nat) : ∀ (i N : Nat) (s0 : S), i ≤ n → n - i < N → Q i s0 → (∀ j s, i ≤ j → j < n → Q j s → (∃ s', f s = some (.inl s') ∧ Q (j + 1) s') ∨ ∃ e, f s = some (.inr e) ∧ T e) → (∀ s, Q n s → ∃ e, f s = some (.inr e) ∧ T e) → ∃ e, pb_wl f N s0 = some e ∧ T e := by
  intro i
  obtain ⟨d, hd⟩ : ∃ d, d = n - i := ⟨_, rfl⟩
  induction d generalizing i with
  | zero =>
    intro N s0 hi hN h0 _ he
    obtain ⟨M, rfl⟩ : ∃ M, N = M + 1 := ⟨N - 1, by omega⟩
    have : i = n := by omega
    subst this
    obtain ⟨e, he1, he2⟩ := he s0 h0
    refine ⟨e, ?_, he2⟩
    unfold pb_wl
    rw [he1]
  | succ d ih =>
    intro N s0 hi hN h0 hs he
    obtain ⟨M, rfl⟩ : ∃ M, N = M + 1 := ⟨N - 1, by omega⟩
    rcases hs i s0 (Nat.le_refl _) (by omega) h0 with ⟨s', h1, h2⟩ | ⟨e, h1, h2⟩
    · obtain ⟨e, h3, h4⟩ := ih (i + 1) (by omega) M s' (by omega) (by omega) h2 (fun j s a b c => hs j s (by omega) b c) he
      refine ⟨e, ?_, h4⟩
      unfold pb_wl
      rw [h1]
      exact h3
    · refine ⟨e, ?_, h2⟩
      unfold pb_wl
      rw [h1]
theorem ma_us (f : Nat → Int32) (k : Nat) (v : Int32) (j : Nat) : upd f k v j = if j = k then v else f j := by
  by_cases h : j = k
  · subst h; rw [if_pos rfl]; exact pk_us
  · rw [if_neg h]; exact pk_un h
