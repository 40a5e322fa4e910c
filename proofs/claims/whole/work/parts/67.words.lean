/-! text: the words that lines begin with -/
theorem wb_tb (n : Nat) : (lN n).toBitVec = BitVec.ofNat 64 n := rfl
theorem wb_inj {a b : Int64} (h : a.toBitVec = b.toBitVec) : a = b := Int64.toBitVec_inj.mp h
theorem wb_c : ∀ k, k < 64 → ((nI k).toInt64 &&& 63) = lN k := by decide +kernel
theorem wb_sm : ∀ k, k < 64 → (BitVec.ofNat 64 k).smod 64 = BitVec.ofNat 64 k := by decide +kernel
theorem wb_shl (n : Nat) {k : Nat} (hk : k < 64) : lN n <<< ((nI k).toInt64 &&& 63) = lN (n * 2 ^ k) := by
  rw [wb_c k hk]
  apply wb_inj
  rw [Int64.toBitVec_shiftLeft, wb_tb, wb_tb, wb_tb, wb_sm k hk]
  apply BitVec.eq_of_toNat_eq
  rw [BitVec.shiftLeft_eq', BitVec.toNat_shiftLeft, BitVec.toNat_ofNat, BitVec.toNat_ofNat, BitVec.toNat_ofNat, Nat.mod_eq_of_lt (show k < 2 ^ 64 by omega), Nat.shiftLeft_eq, Nat.mul_mod, Nat.mod_mod, ← Nat.mul_mod]
/-- letters as one number -/
def tx_V (c : Nat → Nat) : Nat → Nat
  | 0 => 0
  | m + 1 => 256 * tx_V c m + c m
theorem tx_V_inj {c d : Nat → Nat} : ∀ m k, (∀ i, i < m → 1 ≤ c i ∧ c i ≤ 255) → (∀ i, i < k → 1 ≤ d i ∧ d i ≤ 255) → tx_V c m = tx_V d k → m = k ∧ ∀ i, i < m → c i = d i
  | 0, 0, _, _, _ => ⟨rfl, fun i hi => absurd hi (Nat.not_lt_zero i)⟩
  | 0, k + 1, _, hd, e => by
    have e : 0 = 256 * tx_V d k + d k := e
    have := hd k (by omega)
    omega
  | m + 1, 0, hc, _, e => by
    have e : 256 * tx_V c m + c m = 0 := e
    have := hc m (by omega)
    omega
  | m + 1, k + 1, hc, hd, e => by
    have e : 256 * tx_V c m + c m = 256 * tx_V d k + d k := e
    have h1 := hc m (by omega)
    have h2 := hd k (by omega)
    have ih := tx_V_inj m k (fun i hi => hc i (by omega)) (fun i hi => hd i (by omega)) (by omega)
    refine ⟨by omega, fun i hi => ?_⟩
    by_cases q : i = m
    · rw [q]
      have := ih.1
      subst this
      omega
    · exact ih.2 i (by omega)
theorem tx_V_cong {c d : Nat → Nat} : ∀ m, (∀ i, i < m → c i = d i) → tx_V c m = tx_V d m
  | 0, _ => rfl
  | m + 1, e => by
    show 256 * tx_V c m + c m = 256 * tx_V d m + d m
    rw [tx_V_cong m (fun i hi => e i (by omega)), e m (by omega)]
theorem tx_V_lt {c : Nat → Nat} : ∀ m, (∀ i, i < m → c i ≤ 122) → 2 * tx_V c m < 256 ^ m
  | 0, _ => by show 2 * 0 < 1; decide
  | m + 1, e => by
    have ih := tx_V_lt m (fun i hi => e i (by omega))
    have := e m (by omega)
    show 2 * (256 * tx_V c m + c m) < 256 ^ (m + 1)
    rw [Nat.pow_succ]
    omega
/-- the letters of the tape from a on -/
def tx_c (B : Nat → Int32) (a i : Nat) : Nat := (B (a + i)).toNatClampNeg
theorem tx_wd {B : Nat → Int32} {a : Nat} : ∀ m, (∀ i, i < m → sp_A (B (a + i)) = true ∧ (B (a + i)).toInt8.toInt32 = B (a + i)) → sp_wd B a m = lN (tx_V (tx_c B a) m)
  | 0, _ => rfl
  | m + 1, e => by
    have ih := tx_wd m (fun i hi => e i (by omega))
    have y := (tx_b (e m (by omega)).2).2.2.2.2.2.2.1 (e m (by omega)).1
    show (sp_wd B a m <<< (Int32.toInt64 8 &&& 63)) ||| Int32.toInt64 (B (a + m) &&& 255) = _
    have s : lN (tx_V (tx_c B a) m) <<< (Int32.toInt64 8 &&& 63) = lN (tx_V (tx_c B a) m * 2 ^ 8) := wb_shl _ (k := 8) (by decide)
    rw [ih, s, y.1, nI_l (show (B (a + m)).toNatClampNeg < 2 ^ 31 by omega), Nat.mul_comm]
    exact fb_or_sumL (k := 8) _ (by omega)
def tx_len (l : Nat) : Nat := [3, 5, 3, 5, 5, 4, 4, 5, 5, 3, 4, 4, 7, 3].getD l 0
def tx_d (l i : Nat) : Nat := (pb_WD.getD (8 * l + i) 0).toNatClampNeg
theorem tx_tab : ∀ l, l < 14 → tx_len l < 8 ∧ ∀ i, i < 8 → pb_WD.getD (8 * l + i) 0 = nI (tx_d l i) ∧ (i < tx_len l → 97 ≤ tx_d l i ∧ tx_d l i ≤ 122) ∧ (tx_len l ≤ i → tx_d l i = 32) := by decide +kernel
/-- the sign at i of a word, with blanks behind it -/
def sp_sg (B : Nat → Int32) (a b i : Nat) : Int32 := if a + i < b then B (a + i) else 32
def sp_wq (B : Nat → Int32) (a b l : Nat) : Bool := decide (8 ≤ ma_fi (fun i => sp_sg B a b i != pb_WD.getD (8 * l + i) 0) 8 0)
theorem sp_wq_iff {B : Nat → Int32} {a b l : Nat} : sp_wq B a b l = true ↔ ∀ i, i < 8 → sp_sg B a b i = pb_WD.getD (8 * l + i) 0 := by
  have f := ma_fi_sp (fun i => sp_sg B a b i != pb_WD.getD (8 * l + i) 0) 8 0
  unfold sp_wq
  generalize ma_fi (fun i => sp_sg B a b i != pb_WD.getD (8 * l + i) 0) 8 0 = r at *
  rw [decide_eq_true_iff]
  constructor
  · intro h i hi
    have := f.2.2.1 i (by omega) (by omega)
    simpa using this
  · intro h
    rcases Nat.lt_or_ge r 8 with z | z
    · have := f.2.2.2 (by omega)
      rw [h r z] at this
      simp at this
    · exact z
/-- a word of letters is the line's: by signs, by its number -/
theorem tx_word {B : Nat → Int32} {a b l : Nat} (hl : l < 14) (hab : a < b) (hA : ∀ j, a ≤ j → j < b → sp_A (B j) = true ∧ (B j).toInt8.toInt32 = B j) (h8 : b - a < 8) : sp_wq B a b l = true ↔ tx_V (tx_c B a) (b - a) = tx_V (tx_d l) (tx_len l) := by
  have T := tx_tab l hl
  have y : ∀ i, i < b - a → B (a + i) = nI (tx_c B a i) ∧ 97 ≤ tx_c B a i ∧ tx_c B a i ≤ 122 := fun i hi => by
    have q := hA (a + i) (by omega) (by omega)
    have := (tx_b q.2).2.2.2.2.2.2.1 q.1
    exact ⟨this.2.1, this.2.2⟩
  rw [sp_wq_iff]
  constructor
  · intro h
    have sg : ∀ i, i < b - a → tx_c B a i = tx_d l i := fun i hi => by
      have := h i (by omega)
      unfold sp_sg at this
      rw [if_pos (by omega), (y i hi).1, (T.2 i (by omega)).1] at this
      have y2 := (y i hi).2
      have t2 : tx_d l i ≤ 122 := by
        rcases Nat.lt_or_ge i (tx_len l) with z | z
        · exact ((T.2 i (by omega)).2.1 z).2
        · rw [(T.2 i (by omega)).2.2 z]; decide
      exact (nI_eq (by omega) (by omega)).mp this
    have e : b - a = tx_len l := by
      rcases Nat.lt_trichotomy (b - a) (tx_len l) with z | z | z
      · have := h (b - a) h8
        unfold sp_sg at this
        have t := (T.2 (b - a) h8).2.1 z
        rw [if_neg (by omega), (T.2 (b - a) h8).1] at this
        have := (nI_eq (a := 32) (by decide) (by omega)).mp this
        omega
      · exact z
      · have t := (T.2 (tx_len l) T.1).2.2 (Nat.le_refl _)
        have := sg (tx_len l) z
        have := (y (tx_len l) z).2
        omega
    rw [← e]
    exact tx_V_cong _ sg
  · intro h
    have r := tx_V_inj (b - a) (tx_len l) (fun i hi => by have := (y i hi).2; omega) (fun i hi => by have := (T.2 i (by have := T.1; omega)).2.1 hi; omega) h
    intro i hi
    unfold sp_sg
    rw [(T.2 i hi).1]
    rcases Nat.lt_or_ge i (b - a) with z | z
    · rw [if_pos (by omega), (y i z).1, r.2 i z]
    · rw [if_neg (by omega), (T.2 i hi).2.2 (by omega)]; rfl
/-- the line's number as the model has it -/
def tx_w (l : Nat) : Int64 := lN (tx_V (tx_d l) (tx_len l))
theorem tx_w_lt : ∀ l, l < 14 → tx_V (tx_d l) (tx_len l) < 2 ^ 62 ∧ 0 < tx_V (tx_d l) (tx_len l) := by decide +kernel
/-- the number of the token's word, 0 if it is none -/
def tx_wn (B : Nat → Int32) (t : Nat × Nat × Nat) : Int64 := if t.1 = 1 then (if t.2.2 - t.2.1 ≤ 8 then sp_wd B t.2.1 (t.2.2 - t.2.1) else 0) else 0
/-- where the lines of a sort begin -/
def sp_fl (s : Nat) : Nat := [0, 5, 12, 14].getD s 0
/-- the line of a sort that begins with a token; the next sort's first if none does -/
def sp_ln (B : Nat → Int32) (t : Nat × Nat × Nat) (s : Nat) : Nat := if t.1 = 1 ∧ t.2.2 - t.2.1 < 8 then ma_fi (fun l => sp_wq B t.2.1 t.2.2 l) (sp_fl (s + 1) - sp_fl s) (sp_fl s) else sp_fl (s + 1)
theorem sp_fl_b {s : Nat} (hs : s < 3) : sp_fl s < sp_fl (s + 1) ∧ sp_fl (s + 1) ≤ 14 := by
  have : ∀ s, s < 3 → sp_fl s < sp_fl (s + 1) ∧ sp_fl (s + 1) ≤ 14 := by decide
  exact this s hs
theorem sp_ln_b (B : Nat → Int32) (t : Nat × Nat × Nat) {s : Nat} (hs : s < 3) : sp_fl s ≤ sp_ln B t s ∧ sp_ln B t s ≤ sp_fl (s + 1) := by
  have f := sp_fl_b hs
  unfold sp_ln
  split
  · have := ma_fi_sp (fun l => sp_wq B t.2.1 t.2.2 l) (sp_fl (s + 1) - sp_fl s) (sp_fl s)
    omega
  · omega
/-- the token at i, its letters -/
theorem sp_tk_1 {B : Nat → Int32} {n i : Nat} (h : i ≤ n) (e : (sp_tk B n i).1 = 1) : ∀ j, (sp_tk B n i).2.1 ≤ j → j < (sp_tk B n i).2.2 → sp_A (B j) = true := by
  unfold sp_tk at e ⊢
  by_cases c1 : n ≤ sp_en sp_W B n i
  · rw [if_pos c1] at e; exact absurd (show (0 : Nat) = 1 from e) (by decide)
  · rw [if_neg c1] at e ⊢
    by_cases c2 : sp_A (B (sp_en sp_W B n i)) = true
    · rw [if_pos c2]
      intro j a b
      exact sp_en_in a b
    · rw [if_neg c2] at e ⊢
      by_cases c3 : sp_D (B (sp_en sp_W B n i)) = true
      · rw [if_pos c3] at e
        dsimp only at e
        split at e <;> omega
      · rw [if_neg c3] at e
        dsimp only at e
        split at e <;> omega
theorem sp_tk_2 {B : Nat → Int32} {n i : Nat} (h : i ≤ n) (e : (sp_tk B n i).1 = 2) : (sp_tk B n i).2.2 - (sp_tk B n i).2.1 ≤ 2 ∧ ∀ j, (sp_tk B n i).2.1 ≤ j → j < (sp_tk B n i).2.2 → sp_D (B j) = true := by
  unfold sp_tk at e ⊢
  by_cases c1 : n ≤ sp_en sp_W B n i
  · rw [if_pos c1] at e; exact absurd (show (0 : Nat) = 2 from e) (by decide)
  · rw [if_neg c1] at e ⊢
    by_cases c2 : sp_A (B (sp_en sp_W B n i)) = true
    · rw [if_pos c2] at e; exact absurd (show (1 : Nat) = 2 from e) (by decide)
    · rw [if_neg c2] at e ⊢
      by_cases c3 : sp_D (B (sp_en sp_W B n i)) = true
      · rw [if_pos c3] at e ⊢
        dsimp only at e ⊢
        by_cases c4 : sp_en sp_D B n (sp_en sp_W B n i) - sp_en sp_W B n i ≤ 2
        · exact ⟨c4, fun j a b => sp_en_in a b⟩
        · rw [if_neg c4] at e; omega
      · rw [if_neg c3] at e
        dsimp only at e
        split at e <;> omega
section
variable {B : Nat → Int32} {n i s : Nat}
theorem tx_eq (hB : ∀ j, j < n → (B j).toInt8.toInt32 = B j) (hi : i ≤ n) {l : Nat} (hl : l < 14) : tx_wn B (sp_tk B n i) = tx_w l ↔ (sp_tk B n i).1 = 1 ∧ (sp_tk B n i).2.2 - (sp_tk B n i).2.1 < 8 ∧ sp_wq B (sp_tk B n i).2.1 (sp_tk B n i).2.2 l = true := by
  have b := sp_tk_b (B := B) hi
  have p1 := tx_w_lt l hl
  have nz : ¬ (0 : Int64) = tx_w l := fun q => by
    have := (fb_lN_inj (a := 0) (by decide) (by omega)).mp q
    omega
  unfold tx_wn
  by_cases c : (sp_tk B n i).1 = 1
  · have A := sp_tk_1 hi c
    have lt := b.2.2.2.2.2 (by omega)
    rw [if_pos c]
    by_cases c8 : (sp_tk B n i).2.2 - (sp_tk B n i).2.1 ≤ 8
    · have e : ∀ j, j < (sp_tk B n i).2.2 - (sp_tk B n i).2.1 → sp_A (B ((sp_tk B n i).2.1 + j)) = true ∧ (B ((sp_tk B n i).2.1 + j)).toInt8.toInt32 = B ((sp_tk B n i).2.1 + j) := fun j hj => ⟨A _ (by omega) (by omega), hB _ (by omega)⟩
      have le : ∀ j, j < (sp_tk B n i).2.2 - (sp_tk B n i).2.1 → 97 ≤ tx_c B (sp_tk B n i).2.1 j ∧ tx_c B (sp_tk B n i).2.1 j ≤ 122 := fun j hj => ((tx_b (e j hj).2).2.2.2.2.2.2.1 (e j hj).1).2.2
      rw [if_pos c8, tx_wd _ e]
      have lv := tx_V_lt (c := tx_c B (sp_tk B n i).2.1) ((sp_tk B n i).2.2 - (sp_tk B n i).2.1) (fun j hj => (le j hj).2)
      have l8 : 256 ^ ((sp_tk B n i).2.2 - (sp_tk B n i).2.1) ≤ 256 ^ 8 := Nat.pow_le_pow_right (by decide) c8
      have w := fb_lN_inj (a := tx_V (tx_c B (sp_tk B n i).2.1) ((sp_tk B n i).2.2 - (sp_tk B n i).2.1)) (b := tx_V (tx_d l) (tx_len l)) (by omega) (by omega)
      unfold tx_w
      rw [w]
      by_cases c7 : (sp_tk B n i).2.2 - (sp_tk B n i).2.1 < 8
      · rw [tx_word hl lt (fun j x y => ⟨A j x y, hB j (by omega)⟩) c7]
        exact ⟨fun q => ⟨c, c7, q⟩, fun q => q.2.2⟩
      · refine ⟨fun q => ?_, fun q => absurd q.2.1 c7⟩
        have T := tx_tab l hl
        have r := tx_V_inj _ (tx_len l) (fun j hj => by have := le j hj; omega) (fun j hj => by have := (T.2 j (by have := T.1; omega)).2.1 hj; omega) q
        have := T.1
        omega
    · rw [if_neg c8]
      exact ⟨fun q => absurd q nz, fun q => absurd q.2.1 (by omega)⟩
  · rw [if_neg c]
    exact ⟨fun q => absurd q nz, fun q => absurd q.1 c⟩
/-- the line by the word's number -/
theorem tx_line (hB : ∀ j, j < n → (B j).toInt8.toInt32 = B j) (hi : i ≤ n) (hs : s < 3) : (sp_ln B (sp_tk B n i) s < sp_fl (s + 1) → tx_wn B (sp_tk B n i) = tx_w (sp_ln B (sp_tk B n i) s)) ∧ ∀ l, sp_fl s ≤ l → l < sp_ln B (sp_tk B n i) s → ¬ tx_wn B (sp_tk B n i) = tx_w l := by
  have f := sp_fl_b hs
  have g := sp_ln_b B (sp_tk B n i) hs
  have k := ma_fi_sp (fun l => sp_wq B (sp_tk B n i).2.1 (sp_tk B n i).2.2 l) (sp_fl (s + 1) - sp_fl s) (sp_fl s)
  refine ⟨fun z => ?_, fun l a b q => ?_⟩
  · rw [tx_eq hB hi (by omega)]
    unfold sp_ln at z ⊢
    split at z
    · rename_i c
      rw [if_pos c]
      exact ⟨c.1, c.2, k.2.2.2 (by omega)⟩
    · omega
  · have q := (tx_eq hB hi (by omega)).mp q
    unfold sp_ln at b
    rw [if_pos ⟨q.1, q.2.1⟩] at b
    have := k.2.2.1 l a b
    rw [q.2.2] at this
    exact absurd this (by decide)
end
section
variable {h : pb_HP} {N n i a b : Nat} {B : Nat → Int32}
theorem c_93 (H : ma_H h) (t : pb_R h 163 5 = some 40) (dB : ∀ j, j < n → pb_I h 40 j = B j) (hn : n ≤ 600) (h8 : pb_I h 163 8 = nI a) (h9 : pb_I h 163 9 = nI b) (hb : b ≤ n) (ha : a ≤ n) {l : Nat} (hl : l < 14) (hN : 3000 < N) : f_93 N h 163 (nI l) = some (if sp_wq B a b l then 1 else 0) := by
  have f := ma_fi_sp (fun i => sp_sg B a b i != pb_WD.getD (8 * l + i) 0) 8 0
  have st : ∀ j, j < 8 → f_93_2s N h 163 (nI l) (nI j) = if sp_sg B a b j = pb_WD.getD (8 * l + j) 0 then some (.inl (nI (j + 1))) else some (.inr (.inl 0)) := fun j hj => by
    have wl : pb_WD.length = 112 := rfl
    have x : pb_in (nI l * 8 + nI j) pb_WD.length := by
      rw [lJ8, nI_add, wl]
      exact ⟨(lA0 (by omega)).mpr trivial, by rw [nI_clamp (by omega)]; omega⟩
    have cl : (nI (8 * l + j)).toNatClampNeg = 8 * l + j := nI_clamp (by omega)
    have e1 : ¬ (8 : Int32) ≤ nI j := (not_congr (lA8 (show j < 2 ^ 31 by omega))).mpr (by omega)
    simp only [f_93_2s, f_93_37, if_neg e1, if_pos (mi_163 H), h8, h9, if_pos x, t, Option.bind_some]
    simp only [lJ8, nI_add, cl, nI_1, nI_leI (show b < 2 ^ 31 by omega) (show a + j < 2 ^ 31 by omega)]
    unfold sp_sg
    by_cases q : b ≤ a + j
    · rw [if_pos q, if_neg (show ¬ a + j < b by omega)]
    · rw [if_neg q, if_pos (show a + j < b by omega), if_pos (mx_40 H (by omega)), nI_clamp (show a + j < 2 ^ 31 by omega), dB _ (by omega)]
  obtain ⟨r, hr⟩ : ∃ r, r = ma_fi (fun i => sp_sg B a b i != pb_WD.getD (8 * l + i) 0) 8 0 := ⟨_, rfl⟩
  have hl : pb_wl (f_93_2s N h 163 (nI l)) N (nI 0) = some (if r < 8 then .inl 0 else .inr ()) := by
    rw [← hr] at f
    refine ma_wl (fun j => nI j) r N 0 (by omega) (fun j x y => ?_) ?_
    · rw [st j (by omega)]
      have := f.2.2.1 j (by omega) (by omega)
      have : sp_sg B a b j = pb_WD.getD (8 * l + j) 0 := by simpa using this
      rw [if_pos this]
    · rw [Nat.zero_add]
      by_cases z : r < 8
      · rw [st r z, if_pos z]
        have := f.2.2.2 (by omega)
        have : ¬ sp_sg B a b r = pb_WD.getD (8 * l + r) 0 := by simpa using this
        rw [if_neg this]
      · have e1 : (8 : Int32) ≤ nI r := (lA8 (show r < 2 ^ 31 by omega)).mpr (by omega)
        simp only [f_93_2s, if_pos e1, if_neg z]
  have hl : pb_wl (f_93_2s N h 163 (nI l)) N 0 = some (if r < 8 then .inl 0 else .inr ()) := hl
  unfold f_93 sp_wq
  rw [hl, ← hr, Option.bind_some]
  by_cases z : r < 8
  · rw [if_pos z, if_neg (by rw [decide_eq_true_iff]; omega)]
  · rw [if_neg z, if_pos (by rw [decide_eq_true_iff]; omega)]
theorem c_92 (H : ma_H h) (t : pb_R h 163 5 = some 40) (dB : ∀ j, j < n → pb_I h 40 j = B j) (hn : n ≤ 600) (h7 : pb_I h 163 7 = nI (sp_tk B n i).1) (h8 : pb_I h 163 8 = nI (sp_tk B n i).2.1) (h9 : pb_I h 163 9 = nI (sp_tk B n i).2.2) (hi : i ≤ n) {s : Nat} (hs : s < 3) (hN : 3000 < N) : f_92 N h 163 (nI s) = some (if sp_ln B (sp_tk B n i) s < sp_fl (s + 1) then nI (sp_ln B (sp_tk B n i) s) else -1) := by
  have b := sp_tk_b (B := B) hi
  have f := sp_fl_b hs
  have k := ma_fi_sp (fun l => sp_wq B (sp_tk B n i).2.1 (sp_tk B n i).2.2 l) (sp_fl (s + 1) - sp_fl s) (sp_fl s)
  have g : ∀ l, l < 14 → f_93 N h 163 (nI l) = _ := fun l hl => c_93 H t dB hn h8 h9 b.2.2.1 b.2.1 hl hN
  unfold sp_ln
  generalize sp_tk B n i = T at *
  have F : ∀ s, s < 4 → pb_S4.getD s 0 = nI (sp_fl s) := by decide
  have x4 : ∀ s, s < 4 → pb_in (nI s) pb_S4.length := fun s hs => ⟨(lA0 (by omega)).mpr trivial, by rw [nI_clamp (by omega)]; exact hs⟩
  unfold f_92
  rw [if_pos (mi_163 H), h7, h8, h9]
  by_cases c : T.1 = 1
  · rw [if_neg (by rw [c]; decide), pk_sub (show T.2.1 ≤ T.2.2 by have := b.2.2.2.2.2 (by omega); omega)]
    by_cases c8 : T.2.2 - T.2.1 < 8
    · have e8 : ¬ (8 : Int32) ≤ nI (T.2.2 - T.2.1) := (not_congr (lA8 (by omega))).mpr (by omega)
      rw [if_neg e8, if_pos (x4 s (by omega)), nI_clamp (by omega), F s (by omega)]
      rw [if_pos (⟨c, c8⟩ : T.1 = 1 ∧ T.2.2 - T.2.1 < 8)]
      obtain ⟨r, hr⟩ : ∃ r, r = ma_fi (fun l => sp_wq B T.2.1 T.2.2 l) (sp_fl (s + 1) - sp_fl s) (sp_fl s) := ⟨_, rfl⟩
      rw [← hr] at k ⊢
      have hl : pb_wl (f_92_28s N h 163 (nI s)) N (nI (sp_fl s)) = some (if r < sp_fl (s + 1) then .inl (nI r) else .inr ()) := by
        have st : ∀ j, j < 14 → f_92_28s N h 163 (nI s) (nI j) = if sp_fl (s + 1) ≤ j then some (.inr (.inr ())) else if sp_wq B T.2.1 T.2.2 j then some (.inr (.inl (nI j))) else some (.inl (nI (j + 1))) := fun j hj => by
          simp only [f_92_28s, nI_1, if_pos (x4 (s + 1) (by omega)), nI_clamp (show s + 1 < 2 ^ 31 by omega), F (s + 1) (by omega), nI_leI (show sp_fl (s + 1) < 2 ^ 31 by omega) (show j < 2 ^ 31 by omega), if_pos (mi_163 H), g j hj, Option.bind_some]
          by_cases q : sp_fl (s + 1) ≤ j
          · rw [if_pos q, if_pos q]
          · rw [if_neg q, if_neg q]
            cases sp_wq B T.2.1 T.2.2 j <;> rfl
        have en : f_92_28s N h 163 (nI s) (nI 14) = some (.inr (.inr ())) := by
          simp only [f_92_28s, nI_1, if_pos (x4 (s + 1) (by omega)), nI_clamp (show s + 1 < 2 ^ 31 by omega), F (s + 1) (by omega), nI_leI (show sp_fl (s + 1) < 2 ^ 31 by omega) (show 14 < 2 ^ 31 by omega), if_pos (show sp_fl (s + 1) ≤ 14 by omega)]
        have := ma_wl (f := f_92_28s N h 163 (nI s)) (e := if r < sp_fl (s + 1) then .inl (nI r) else .inr ()) (fun j => nI j) (r - sp_fl s) N (sp_fl s) (by omega) (fun j x y => by
          rw [st j (by omega), if_neg (by omega), if_neg (by rw [k.2.2.1 j x (by omega)]; decide)]) (by
          rw [show sp_fl s + (r - sp_fl s) = r by omega]
          by_cases z : r < sp_fl (s + 1)
          · rw [st r (by omega), if_neg (by omega), if_pos (k.2.2.2 (by omega)), if_pos z]
          · rw [if_neg z]
            by_cases z2 : r = 14
            · rw [z2, en]
            · rw [st r (by omega), if_pos (by omega)])
        exact this
      rw [hl, Option.bind_some]
      by_cases z : r < sp_fl (s + 1)
      · rw [if_pos z, if_pos z]
      · rw [if_neg z, if_neg z]
    · have e8 : (8 : Int32) ≤ nI (T.2.2 - T.2.1) := (lA8 (by omega)).mpr (by omega)
      rw [if_pos e8, if_neg (fun q : T.1 = 1 ∧ T.2.2 - T.2.1 < 8 => c8 q.2), if_neg (Nat.lt_irrefl _)]
  · have e1 : ¬ nI T.1 = 1 := (not_congr (lE1 (show T.1 < 2 ^ 31 by omega))).mpr c
    rw [if_pos e1, if_neg (fun q : T.1 = 1 ∧ T.2.2 - T.2.1 < 8 => c q.1), if_neg (Nat.lt_irrefl _)]
end
