/-! rivals: the game, and the developers' way -/
def ri_k (K : ma_K) (a b x y : Nat) : ma_K := sp_up (sp_up K 2 a x) 2 b y
def ri_l (K : ma_K) (a b x y : Nat) : Nat := if sp_p63 (ri_k K a b x y) = a then 2 else if sp_p63 (ri_k K a b x y) = b then 0 else 1
def ri_o (x v : Nat) : Nat := if v = 6 then x else x ||| 2 ^ v
def ri_a (x v : Nat) : Bool := decide (v = 6) || !x.testBit v
/-- what it comes to (one more than it is), d turns ahead of the end, from turn t -/
def ri_v (K : ma_K) (a b : Nat) : Nat → Nat → Nat → Nat → Nat
  | 0, _, x, y => ri_l K a b x y
  | d + 1, t, x, y => if t % 2 = 0 then ma_fo (fun v L => if ri_a x v then max L (ri_v K a b d (t + 1) (ri_o x v) y) else L) 7 0 else ma_fo (fun v L => if ri_a y v then min L (ri_v K a b d (t + 1) x (ri_o y v)) else L) 7 2
theorem ri_l_le (K : ma_K) (a b x y : Nat) : ri_l K a b x y ≤ 2 := by unfold ri_l; split <;> (try split) <;> omega
theorem ri_v_le (K : ma_K) (a b : Nat) : ∀ d t x y, ri_v K a b d t x y ≤ 2
  | 0, t, x, y => ri_l_le K a b x y
  | d + 1, t, x, y => by
    unfold ri_v
    split
    · exact ma_fo_inv (g := fun v L => if ri_a x v then max L (ri_v K a b d (t + 1) (ri_o x v) y) else L) (P := fun _ L => L ≤ 2) (a0 := 0) (by decide) 7 (fun j L _ hL => by
        have := ri_v_le K a b d (t + 1) (ri_o x j) y
        split <;> omega)
    · exact ma_fo_inv (g := fun v L => if ri_a y v then min L (ri_v K a b d (t + 1) x (ri_o y v)) else L) (P := fun _ L => L ≤ 2) (a0 := 2) (by decide) 7 (fun j L _ hL => by split <;> omega)
theorem ri_o_lt {x v : Nat} (hx : x < 64) (hv : v < 7) : ri_o x v < 64 := by
  unfold ri_o
  split
  · exact hx
  · exact tx_or hx (by omega)
def ri_c (lo hi x : Nat) : Nat := max lo (min hi x)
def ri_A (al : Nat → Bool) (x : Nat → Nat) (j : Nat) : Nat := ma_fo (fun v L => if al v then max L (x v) else L) j 0
def ri_B (al : Nat → Bool) (x : Nat → Nat) (j : Nat) : Nat := ma_fo (fun v L => if al v then min L (x v) else L) j 2
theorem ri_A_s (al : Nat → Bool) (x : Nat → Nat) (j : Nat) : ri_A al x (j + 1) = if al j then max (ri_A al x j) (x j) else ri_A al x j := rfl
theorem ri_B_s (al : Nat → Bool) (x : Nat → Nat) (j : Nat) : ri_B al x (j + 1) = if al j then min (ri_B al x j) (x j) else ri_B al x j := rfl
theorem ri_A_m (al : Nat → Bool) (x : Nat → Nat) (j : Nat) : ∀ d, ri_A al x j ≤ ri_A al x (j + d)
  | 0 => Nat.le_refl _
  | d + 1 => by
    have := ri_A_m al x j d
    rw [← Nat.add_assoc, ri_A_s]
    split <;> omega
theorem ri_B_m (al : Nat → Bool) (x : Nat → Nat) (j : Nat) : ∀ d, ri_B al x (j + d) ≤ ri_B al x j
  | 0 => Nat.le_refl _
  | d + 1 => by
    have := ri_B_m al x j d
    rw [← Nat.add_assoc, ri_B_s]
    split <;> omega
theorem ri_k_a {K : ma_K} {a b : Nat} (ab : a ≠ b) (x y z : Nat) : sp_up (ri_k K a b x y) 2 a z = ri_k K a b z y := by
  funext i j
  unfold ri_k sp_up
  by_cases e1 : i = 2 ∧ j = a
  · rw [if_pos e1, if_neg (fun q => ab (e1.2.symm.trans q.2)), if_pos e1]
  · rw [if_neg e1]
    by_cases e2 : i = 2 ∧ j = b
    · rw [if_pos e2, if_pos e2]
    · rw [if_neg e2, if_neg e2, if_neg e1, if_neg e1]
theorem ri_k_b {K : ma_K} {a b : Nat} (x y z : Nat) : sp_up (ri_k K a b x y) 2 b z = ri_k K a b x z := sp_up_up _ _ _ _ _
theorem ri_k_xa {K : ma_K} {a b : Nat} (ab : a ≠ b) (x y : Nat) : ri_k K a b x y 2 a = x := by
  unfold ri_k
  rw [sp_up_n (.inr ab), sp_up_s]
theorem ri_k_xb {K : ma_K} {a b : Nat} (x y : Nat) : ri_k K a b x y 2 b = y := sp_up_s _ _ _ _
theorem ri_k_0 {K : ma_K} {a b : Nat} : ri_k K a b (K 2 a) (K 2 b) = K := by
  unfold ri_k
  rw [sp_up_id, sp_up_id]
theorem ri_k_OK {K : ma_K} {a b x y : Nat} (O : ma_OK K) (ha : a < K 0 0) (hb : b < K 0 0) (hx : x < 64) (hy : y < 64) : ma_OK (ri_k K a b x y) := by
  have e : sp_up K 2 a x 0 0 = K 0 0 := sp_up_n (.inl (by decide))
  exact ma_OK_up2 (ma_OK_up2 O ha hx) (by rw [e]; exact hb) hy
/-- the trial as it stands -/
def ri_S (h : pb_HP) (K : ma_K) (a b n x y : Nat) : Prop := ma_H h ∧ ma_V h 185 (ri_k K a b x y) ∧ pb_I h 184 2 = nI a ∧ pb_I h 184 3 = nI b ∧ pb_I h 184 4 = nI n
theorem ri_S_fr {h g : pb_HP} {K : ma_K} {a b n x y x2 y2 : Nat} (S : ri_S h K a b n x y) (f : ma_fr ma_tL [] h g) (V : ma_V g 185 (ri_k K a b x2 y2)) : ri_S g K a b n x2 y2 := ⟨ma_H_fr S.1 f, V, by rw [ma_fr_o f (by decide) (by decide)]; exact S.2.2.1, by rw [ma_fr_o f (by decide) (by decide)]; exact S.2.2.2.1, by rw [ma_fr_o f (by decide) (by decide)]; exact S.2.2.2.2⟩
theorem ri_odd {t : Nat} (ht : t < 2 ^ 30) : (¬ (nI t - nI t / 2 * 2) = 0) ↔ ¬ t % 2 = 0 := by
  have d : nI t / 2 = nI (t / 2) := lL2 (by omega)
  have e : nI t - nI t / 2 * 2 = nI (t % 2) := by
    have le : 2 * (t / 2) ≤ t := Nat.mul_div_le t 2
    rw [d, lJ2, pk_sub le]
    congr 1
    omega
  rw [e]
  exact not_congr (lE0 (by omega))
section
variable {h : pb_HP} {N : Nat} {K : ma_K} {a b n : Nat}
theorem c_116 {m v x : Nat} (H : ma_H h) {K2 : ma_K} (V : ma_V h 185 K2) (hm : m < 6) (ex : K2 2 m = x) (hx : x < 64) (hv : v < 7) : f_116 h 184 (nI m) (nI v) = some (if ri_a x v then 1 else 0) := by
  unfold f_116 ri_a
  by_cases c : v = 6
  · rw [if_pos (show nI v = 6 by rw [c]; rfl), if_pos (by simp [c])]
  · have t : pb_I h 187 m = nI x := by rw [← ex]; exact V.2.2.2.2.1 m hm
    rw [if_neg (fun z => c ((lE6 (show v < 2 ^ 31 by omega)).mp z)), if_pos (mi_184 H), mr_184_0 H, Option.bind_some, if_pos (mi_185 H), mr_185_3 H, Option.bind_some, if_pos (mx_187 H hm), nI_clamp (show m < 2 ^ 31 by omega), t, ma_bit (show x < 2 ^ 31 by omega) (show v < 32 by omega)]
    cases q : x.testBit v
    · rw [if_neg (show ¬ (false = true) by decide), if_neg (not_not_intro rfl), if_pos (by simp)]
    · rw [if_pos rfl, if_pos (by decide), if_neg (by simp [c])]
/-- one turn shown, the rest by F -/
theorem c_118 {F : pb_HP → Nat → Int32 → Int32 → Int32 → Option (Int32 × pb_HP)} {P : Int32 → Prop} {t v x y : Nat} {lo hi : Int32} (O : ma_OK K) (ha : a < K 0 0) (hb : b < K 0 0) (ab : a ≠ b) (hx : x < 64) (hy : y < 64) (ht : t < 10) (hv : v < 7) (S : ri_S h K a b n x y) (hF : ∀ h2, ri_S h2 K a b n (if t % 2 = 0 then ri_o x v else x) (if t % 2 = 0 then y else ri_o y v) → ∃ r g, F h2 184 (nI (t + 1)) lo hi = some (r, g) ∧ P r ∧ ma_fr ma_tL [] h2 g ∧ ma_V g 185 (ri_k K a b (if t % 2 = 0 then ri_o x v else x) (if t % 2 = 0 then y else ri_o y v))) : ∃ r g, f_118 F N h 184 (nI t) (nI v) lo hi = some (r, g) ∧ P r ∧ ma_fr ma_tL [] h g ∧ ma_V g 185 (ri_k K a b x y) := by
  have h6 := O.1
  obtain ⟨H, V, c2, c3, c4⟩ := S
  -- the man who is on turn, what he has
  have gen : ∀ m z, m < 6 → z < 64 → ri_k K a b x y 2 m = z → (∀ w, sp_up (ri_k K a b x y) 2 m w = ri_k K a b (if t % 2 = 0 then w else x) (if t % 2 = 0 then y else w)) → (if t % 2 = 0 then ri_o x v else x) = (if t % 2 = 0 then ri_o z v else x) → (if t % 2 = 0 then y else ri_o y v) = (if t % 2 = 0 then y else ri_o z v) → (ri_k K a b (if t % 2 = 0 then z else x) (if t % 2 = 0 then y else z) = ri_k K a b x y) → ∃ r g, f_118_17 F N h 184 (nI t) (nI v) lo hi (nI m) = some (r, g) ∧ P r ∧ ma_fr ma_tL [] h g ∧ ma_V g 185 (ri_k K a b x y) := fun m z hm hz ez up ex ey ek => by
    have cm : (nI m).toNatClampNeg = m := nI_clamp (by omega)
    have tm : pb_I h 187 m = nI z := by rw [← ez]; exact V.2.2.2.2.1 m hm
    have fin : ∀ h2, ma_fr ma_tL [] h h2 → ma_V h2 185 (ri_k K a b (if t % 2 = 0 then ri_o z v else x) (if t % 2 = 0 then y else ri_o z v)) → ∃ r g, f_118_53 F N h2 184 (nI t) lo hi (nI m) (nI z) = some (r, g) ∧ P r ∧ ma_fr ma_tL [] h g ∧ ma_V g 185 (ri_k K a b x y) := fun h2 f2 V2 => by
      rw [← ex, ← ey] at V2
      have S2 : ri_S h2 K a b n (if t % 2 = 0 then ri_o x v else x) (if t % 2 = 0 then y else ri_o y v) := ri_S_fr ⟨H, V, c2, c3, c4⟩ f2 V2
      have H2 := S2.1
      obtain ⟨r, g, a1, aP, a2, a3⟩ := hF h2 S2
      have Hg := ma_H_fr H2 a2
      have f3 : ma_fr ma_tL [] h (pb_pI g 187 m (nI z)) := ma_fr_pI (ma_fr_t f2 a2) (.inl (by decide)) _
      refine ⟨r, pb_pI g 187 m (nI z), ?_, aP, f3, ?_⟩
      · unfold f_118_53
        rw [if_pos (mi_184 H2), nI_1, a1, Option.bind_some]
        dsimp only
        rw [if_pos (mi_184 Hg), mr_184_0 Hg, Option.bind_some, if_pos (mi_185 Hg), mr_185_3 Hg, Option.bind_some, if_pos (mx_187 Hg hm), cm]
      · have := ma_V_p2 a3 m z
        rw [ex, ey] at this
        have e : sp_up (ri_k K a b (if t % 2 = 0 then ri_o z v else x) (if t % 2 = 0 then y else ri_o z v)) 2 m z = ri_k K a b x y := by
          rw [← up, sp_up_up, up]; exact ek
        rw [e] at this
        exact this
    unfold f_118_17
    rw [if_pos (mi_184 H), mr_184_0 H, Option.bind_some, if_pos (mi_185 H), mr_185_3 H, Option.bind_some, if_pos (mx_187 H hm), cm, tm]
    by_cases c : v = 6
    · rw [if_pos (show nI v = 6 by rw [c]; rfl)]
      refine fin h (ma_fr_r _ _ _) ?_
      have : ri_o z v = z := if_pos c
      rw [this, ek]; exact V
    · rw [if_neg (fun q => c ((lE6 (show v < 2 ^ 31 by omega)).mp q)), ma_shl (show v < 31 by omega), fa_or]
      refine fin _ (ma_fr_pI (ma_fr_r _ _ _) (.inl (by decide)) _) ?_
      have e : ri_o z v = z ||| 2 ^ v := if_neg c
      rw [e, ← up]
      exact ma_V_p2 V m _
  unfold f_118
  by_cases c : t % 2 = 0
  · rw [if_neg (fun q => (ri_odd (by omega)).mp q c), if_pos (mi_184 H), c2]
    refine gen a x (by omega) hx (ri_k_xa ab x y) (fun w => ?_) rfl ?_ ?_
    · rw [if_pos c, if_pos c]; exact ri_k_a ab x y w
    · rw [if_pos c, if_pos c]
    · rw [if_pos c, if_pos c]
  · rw [if_pos ((ri_odd (by omega)).mpr c), if_pos (mi_184 H), c3]
    refine gen b y (by omega) hy (ri_k_xb x y) (fun w => ?_) ?_ rfl ?_
    · rw [if_neg c, if_neg c]; exact ri_k_b x y w
    · rw [if_neg c, if_neg c]
    · rw [if_neg c, if_neg c]
theorem ri_v_e (K : ma_K) (a b d t x y : Nat) (c : t % 2 = 0) : ri_v K a b (d + 1) t x y = ri_A (ri_a x) (fun v => ri_v K a b d (t + 1) (ri_o x v) y) 7 := if_pos c
theorem ri_v_o (K : ma_K) (a b d t x y : Nat) (c : ¬ t % 2 = 0) : ri_v K a b (d + 1) t x y = ri_B (ri_a y) (fun v => ri_v K a b d (t + 1) x (ri_o y v)) 7 := if_neg c
theorem c_117 (O : ma_OK K) (ha : a < K 0 0) (hb : b < K 0 0) (ab : a ≠ b) (hn : n ≤ 4) (hN : 3000 < N) : ∀ d t x y h M lo hi, t + d = n → d < M → lo < hi → hi ≤ 2 → x < 64 → y < 64 → ri_S h K a b n x y → ∃ r g, f_rec117 N M h 184 (nI t) (mI lo) (mI hi) = some (mI r, g) ∧ (r ≤ 2 ∧ ri_c lo hi r = ri_c lo hi (ri_v K a b d t x y)) ∧ ma_fr ma_tL [] h g ∧ ma_V g 185 (ri_k K a b x y)
  | 0, t, x, y, h, M, lo, hi, ht, hM, hl, h2, hx, hy, S => by
    obtain ⟨M', rfl⟩ : ∃ M', M = M' + 1 := ⟨M - 1, by omega⟩
    have h6 := O.1
    have OK := ri_k_OK O ha hb hx hy
    obtain ⟨g, a1, a2⟩ := c_109 (N := N) S.1 S.2.1 OK hN
    have Hg := ma_H_fr S.1 a2
    have p6 : sp_p63 (ri_k K a b x y) ≤ 6 := sp_pk_le OK _ 63
    have c2 : pb_I g 184 2 = nI a := by rw [ma_fr_o a2 (by decide) (by decide)]; exact S.2.2.1
    have c3 : pb_I g 184 3 = nI b := by rw [ma_fr_o a2 (by decide) (by decide)]; exact S.2.2.2.1
    have nl : ¬ nI t < nI n := fun q => by have := (nI_ltI (show t < 2 ^ 31 by omega) (show n < 2 ^ 31 by omega)).mp q; omega
    refine ⟨ri_l K a b x y, g, ?_, ⟨ri_l_le K a b x y, rfl⟩, ma_fr_w a2 (by decide) (by decide), ma_V_tp S.2.1 a2⟩
    show f_117 (f_rec117 N M') N h 184 (nI t) (mI lo) (mI hi) = _
    unfold f_117
    rw [if_pos (mi_184 S.1), S.2.2.2.2, if_neg nl, a1, Option.bind_some]
    dsimp only
    rw [if_pos (mi_184 Hg), c2, c3]
    unfold ri_l
    by_cases e1 : sp_p63 (ri_k K a b x y) = a
    · rw [if_neg (not_not_intro (by rw [e1])), if_pos e1]; rfl
    · rw [if_pos (fun q => e1 ((nI_eq (show sp_p63 (ri_k K a b x y) < 2 ^ 31 by omega) (show a < 2 ^ 31 by omega)).mp q)), if_neg e1]
      by_cases e2 : sp_p63 (ri_k K a b x y) = b
      · rw [if_neg (not_not_intro (by rw [e2])), if_pos e2]; rfl
      · rw [if_pos (fun q => e2 ((nI_eq (show sp_p63 (ri_k K a b x y) < 2 ^ 31 by omega) (show b < 2 ^ 31 by omega)).mp q)), if_neg e2]; rfl
  | d + 1, t, x, y, h, M, lo, hi, ht, hM, hl, h2, hx, hy, S => by
    obtain ⟨M', rfl⟩ : ∃ M', M = M' + 1 := ⟨M - 1, by omega⟩
    have h6 := O.1
    have ih := c_117 O ha hb ab hn hN d (t + 1)
    have lt : nI t < nI n := (nI_ltI (show t < 2 ^ 31 by omega) (show n < 2 ^ 31 by omega)).mpr (by omega)
    show ∃ r g, f_117 (f_rec117 N M') N h 184 (nI t) (mI lo) (mI hi) = some (mI r, g) ∧ _
    unfold f_117
    rw [if_pos (mi_184 S.1), S.2.2.2.2, if_pos lt]
    unfold f_117_53
    by_cases c : t % 2 = 0
    · rw [if_neg (fun q => (ri_odd (by omega)).mp q c), if_neg (by decide), if_pos (mi_184 S.1), S.2.2.1, ri_v_e K a b d t x y c]
      obtain ⟨X, eX⟩ : ∃ X, X = fun v => ri_v K a b d (t + 1) (ri_o x v) y := ⟨_, rfl⟩
      rw [← eX]
      have X2 : ∀ v, X v ≤ 2 := fun v => by rw [eX]; exact ri_v_le K a b d (t + 1) _ _
      have lp : ∃ e, pb_wl (f_117_82s (f_rec117 N M') N 184 (nI t) 1 (nI a)) N (mI lo, mI hi, 0, h) = some e ∧ (∃ L g, e = (mI L, mI hi, g) ∧ L ≤ 2 ∧ ri_c lo hi L = ri_c lo hi (ri_A (ri_a x) X 7) ∧ ma_fr ma_tL [] h g ∧ ma_V g 185 (ri_k K a b x y)) := by
        refine ma_lh (fun j s => ∃ L g, s = (mI L, mI hi, nI j, g) ∧ lo ≤ L ∧ L ≤ 2 ∧ min hi L = ri_c lo hi (ri_A (ri_a x) X j) ∧ ma_fr ma_tL [] h g ∧ ma_V g 185 (ri_k K a b x y)) _ 7 0 N _ (by omega) (by omega) ⟨lo, h, rfl, Nat.le_refl _, by omega, by unfold ri_c; show min hi lo = max lo (min hi 0); omega, ma_fr_r _ _ _, S.2.1⟩ ?_ ?_
        · rintro j s _ hj ⟨L, g, rfl, l1, l2, l3, fg, Vg⟩
          have Sg : ri_S g K a b n x y := ri_S_fr S fg Vg
          have Hg := Sg.1
          have n6 : ¬ (6 : Int32) < nI j := fun q => by have := (lB6 (show j < 2 ^ 31 by omega)).mp q; omega
          by_cases cut : hi ≤ L
          · right
            refine ⟨(mI L, mI hi, g), ?_, L, g, rfl, l2, ?_, fg, Vg⟩
            · simp only [f_117_82s, if_neg n6, if_pos ((mI_le (show hi < 2 ^ 31 by omega) (show L < 2 ^ 31 by omega)).mpr cut)]
            · have m := ri_A_m (ri_a x) X j (7 - j)
              rw [show j + (7 - j) = 7 by omega] at m
              unfold ri_c at *
              omega
          · have z := c_116 (x := x) Hg Vg (show a < 6 by omega) (ri_k_xa ab x y) hx hj
            have nc : ¬ mI hi ≤ mI L := fun q => cut ((mI_le (show hi < 2 ^ 31 by omega) (show L < 2 ^ 31 by omega)).mp q)
            left
            by_cases al : ri_a x j = true
            · obtain ⟨r, g2, a1, ⟨r1, r2⟩, a3, a4⟩ := c_118 (F := f_rec117 N M') (N := N) (P := fun r => ∃ r', r = mI r' ∧ r' ≤ 2 ∧ ri_c L hi r' = ri_c L hi (X j)) (lo := mI L) (hi := mI hi) O ha hb ab hx hy (show t < 10 by omega) hj Sg (fun h2 S2 => by
                rw [if_pos c, if_pos c] at S2
                obtain ⟨r', g2, a1, a2, a3, a4⟩ := ih (ri_o x j) y h2 M' L hi (by omega) (by omega) (by omega) (by omega) (ri_o_lt hx hj) hy S2
                refine ⟨mI r', g2, a1, ⟨r', rfl, a2.1, ?_⟩, a3, ?_⟩
                · rw [eX]; exact a2.2
                · rw [if_pos c, if_pos c]; exact a4)
              obtain ⟨rfl, r3, r4⟩ := r2
              refine ⟨(mI (max L r1), mI hi, nI (j + 1), g2), ?_, max L r1, g2, rfl, by omega, by omega, ?_, ma_fr_t fg a3, a4⟩
              · simp only [f_117_82s, if_neg n6, if_neg nc, if_pos (mi_184 Hg), z, al, if_true, Option.bind_some, i10, if_false, a1, nI_1, mI_lt (show L < 2 ^ 31 by omega) (show r1 < 2 ^ 31 by omega)]
                by_cases q : L < r1
                · rw [if_pos q, Nat.max_eq_right (by omega)]
                · rw [if_neg q, Nat.max_eq_left (by omega)]
              · rw [ri_A_s, if_pos al]
                unfold ri_c at *
                omega
            · refine ⟨(mI L, mI hi, nI (j + 1), g), ?_, L, g, rfl, l1, l2, ?_, fg, Vg⟩
              · have z : f_116 g 184 (nI a) (nI j) = some 0 := by rw [z, if_neg al]
                simp only [f_117_82s, if_neg n6, if_neg nc, if_pos (mi_184 Hg), z, Option.bind_some, if_true, nI_1]
              · rw [ri_A_s, if_neg al]; exact l3
        · rintro s ⟨L, g, rfl, l1, l2, l3, fg, Vg⟩
          refine ⟨(mI L, mI hi, g), ?_, L, g, rfl, l2, ?_, fg, Vg⟩
          · simp only [f_117_82s, if_pos (show (6 : Int32) < nI 7 by decide)]
          · unfold ri_c at *
            omega
      obtain ⟨e, e1, L, g, rfl, l2, l3, fg, Vg⟩ := lp
      refine ⟨L, g, ?_, ⟨l2, l3⟩, fg, Vg⟩
      unfold f_117_71 f_117_152
      rw [e1, Option.bind_some]
      dsimp only
      rw [if_neg (by decide)]
    · rw [if_pos ((ri_odd (by omega)).mpr c), if_pos rfl, if_pos (mi_184 S.1), S.2.2.2.1, ri_v_o K a b d t x y c]
      obtain ⟨X, eX⟩ : ∃ X, X = fun v => ri_v K a b d (t + 1) x (ri_o y v) := ⟨_, rfl⟩
      rw [← eX]
      have X2 : ∀ v, X v ≤ 2 := fun v => by rw [eX]; exact ri_v_le K a b d (t + 1) _ _
      have lp : ∃ e, pb_wl (f_117_82s (f_rec117 N M') N 184 (nI t) 0 (nI b)) N (mI lo, mI hi, 0, h) = some e ∧ (∃ L g, e = (mI lo, mI L, g) ∧ L ≤ 2 ∧ ri_c lo hi L = ri_c lo hi (ri_B (ri_a y) X 7) ∧ ma_fr ma_tL [] h g ∧ ma_V g 185 (ri_k K a b x y)) := by
        refine ma_lh (fun j s => ∃ L g, s = (mI lo, mI L, nI j, g) ∧ L ≤ hi ∧ max lo L = ri_c lo hi (ri_B (ri_a y) X j) ∧ ma_fr ma_tL [] h g ∧ ma_V g 185 (ri_k K a b x y)) _ 7 0 N _ (by omega) (by omega) ⟨hi, h, rfl, Nat.le_refl _, by unfold ri_c; show max lo hi = max lo (min hi 2); omega, ma_fr_r _ _ _, S.2.1⟩ ?_ ?_
        · rintro j s _ hj ⟨L, g, rfl, l1, l3, fg, Vg⟩
          have Sg : ri_S g K a b n x y := ri_S_fr S fg Vg
          have Hg := Sg.1
          have n6 : ¬ (6 : Int32) < nI j := fun q => by have := (lB6 (show j < 2 ^ 31 by omega)).mp q; omega
          by_cases cut : L ≤ lo
          · right
            refine ⟨(mI lo, mI L, g), ?_, L, g, rfl, by omega, ?_, fg, Vg⟩
            · simp only [f_117_82s, if_neg n6, if_pos ((mI_le (show L < 2 ^ 31 by omega) (show lo < 2 ^ 31 by omega)).mpr cut)]
            · have m := ri_B_m (ri_a y) X j (7 - j)
              rw [show j + (7 - j) = 7 by omega] at m
              unfold ri_c at *
              omega
          · have z := c_116 (x := y) Hg Vg (show b < 6 by omega) (ri_k_xb x y) hy hj
            have nc : ¬ mI L ≤ mI lo := fun q => cut ((mI_le (show L < 2 ^ 31 by omega) (show lo < 2 ^ 31 by omega)).mp q)
            left
            by_cases al : ri_a y j = true
            · obtain ⟨r, g2, a1, ⟨r1, r2⟩, a3, a4⟩ := c_118 (F := f_rec117 N M') (N := N) (P := fun r => ∃ r', r = mI r' ∧ r' ≤ 2 ∧ ri_c lo L r' = ri_c lo L (X j)) (lo := mI lo) (hi := mI L) O ha hb ab hx hy (show t < 10 by omega) hj Sg (fun h2 S2 => by
                rw [if_neg c, if_neg c] at S2
                obtain ⟨r', g2, a1, a2, a3, a4⟩ := ih x (ri_o y j) h2 M' lo L (by omega) (by omega) (by omega) (by omega) hx (ri_o_lt hy hj) S2
                refine ⟨mI r', g2, a1, ⟨r', rfl, a2.1, ?_⟩, a3, ?_⟩
                · rw [eX]; exact a2.2
                · rw [if_neg c, if_neg c]; exact a4)
              obtain ⟨rfl, r3, r4⟩ := r2
              refine ⟨(mI lo, mI (min L r1), nI (j + 1), g2), ?_, min L r1, g2, rfl, by omega, ?_, ma_fr_t fg a3, a4⟩
              · simp only [f_117_82s, if_neg n6, if_neg nc, if_pos (mi_184 Hg), z, al, if_true, Option.bind_some, i10, if_false, a1, nI_1, mI_lt (show r1 < 2 ^ 31 by omega) (show L < 2 ^ 31 by omega)]
                by_cases q : r1 < L
                · rw [if_pos q, Nat.min_eq_right (by omega)]
                · rw [if_neg q, Nat.min_eq_left (by omega)]
              · rw [ri_B_s, if_pos al]
                unfold ri_c at *
                omega
            · refine ⟨(mI lo, mI L, nI (j + 1), g), ?_, L, g, rfl, l1, ?_, fg, Vg⟩
              · have z : f_116 g 184 (nI b) (nI j) = some 0 := by rw [z, if_neg al]
                simp only [f_117_82s, if_neg n6, if_neg nc, if_pos (mi_184 Hg), z, Option.bind_some, if_true, nI_1]
              · rw [ri_B_s, if_neg al]; exact l3
        · rintro s ⟨L, g, rfl, l1, l3, fg, Vg⟩
          refine ⟨(mI lo, mI L, g), ?_, L, g, rfl, by omega, ?_, fg, Vg⟩
          · simp only [f_117_82s, if_pos (show (6 : Int32) < nI 7 by decide)]
          · unfold ri_c at *
            omega
      obtain ⟨e, e1, L, g, rfl, l2, l3, fg, Vg⟩ := lp
      refine ⟨L, g, ?_, ⟨l2, l3⟩, fg, Vg⟩
      unfold f_117_71 f_117_152
      rw [e1, Option.bind_some]
      dsimp only
      rw [if_pos rfl]
end
