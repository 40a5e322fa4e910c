/-! rivals: the model's tree, and the call -/
def ri_I (e : Nat) : Int32 := if e = 0 then -99 else mI (e - 1)
theorem ri_I_d : ∀ e, e ≤ 3 → (ri_I e = -99 ↔ e = 0) ∧ ∀ f, f ≤ 3 → (e ≠ 0 → f ≠ 0 → (ri_I e ≤ ri_I f ↔ e ≤ f)) := by decide +kernel
/-- where t turns by a number lead -/
def ri_m (x0 y0 : Nat) : Nat → Nat → Option (Nat × Nat)
  | 0, _ => some (x0, y0)
  | t + 1, k => (ri_m x0 y0 t (k / 7)).bind fun s => if t % 2 = 0 then (if ri_a s.1 (k % 7) then some (ri_o s.1 (k % 7), s.2) else none) else (if ri_a s.2 (k % 7) then some (s.1, ri_o s.2 (k % 7)) else none)
theorem ri_m_s (x0 y0 t k : Nat) : ri_m x0 y0 (t + 1) k = (ri_m x0 y0 t (k / 7)).bind fun s => if t % 2 = 0 then (if ri_a s.1 (k % 7) then some (ri_o s.1 (k % 7), s.2) else none) else (if ri_a s.2 (k % 7) then some (s.1, ri_o s.2 (k % 7)) else none) := rfl
theorem ri_m_n {x0 y0 t : Nat} : ∀ d k, ri_m x0 y0 t (k / 7 ^ d) = none → ri_m x0 y0 (t + d) k = none
  | 0, k, h => by rw [Nat.pow_zero, Nat.div_one] at h; exact h
  | d + 1, k, h => by
    rw [← Nat.add_assoc, ri_m_s]
    have : ri_m x0 y0 t (k / 7 / 7 ^ d) = none := by rw [Nat.div_div_eq_div_mul, Nat.mul_comm, ← Nat.pow_succ]; exact h
    rw [ri_m_n d (k / 7) this]
    rfl
theorem ri_m_lt {x0 y0 : Nat} (hx : x0 < 64) (hy : y0 < 64) : ∀ t k s, ri_m x0 y0 t k = some s → s.1 < 64 ∧ s.2 < 64
  | 0, k, s, h => by cases h; exact ⟨hx, hy⟩
  | t + 1, k, s, h => by
    rw [ri_m_s] at h
    cases e : ri_m x0 y0 t (k / 7) with
    | none => rw [e] at h; cases h
    | some p =>
      have ih := ri_m_lt hx hy t (k / 7) p e
      have m7 : k % 7 < 7 := Nat.mod_lt _ (by decide)
      rw [e, Option.bind_some] at h
      split at h
      · split at h
        · cases h; exact ⟨ri_o_lt ih.1 m7, ih.2⟩
        · cases h
      · split at h
        · cases h; exact ⟨ih.1, ri_o_lt ih.2 m7⟩
        · cases h
/-- what it comes to behind t turns by a number: 0 if it can't be -/
def ri_w (K : ma_K) (a b n t k : Nat) : Nat := (ri_m (K 2 a) (K 2 b) t k).elim 0 (fun s => ri_v K a b (n - t) t s.1 s.2 + 1)
theorem ri_w_le (K : ma_K) (a b n t k : Nat) : ri_w K a b n t k ≤ 3 := by
  unfold ri_w
  cases ri_m (K 2 a) (K 2 b) t k with
  | none => exact Nat.zero_le _
  | some s => exact Nat.succ_le_succ (ri_v_le K a b (n - t) t s.1 s.2)
/-- a turn folded -/
theorem ri_fold {K : ma_K} {a b n t k : Nat} (ht : t < n) : (ri_g (fun v => if v < 7 then ri_w K a b n (t + 1) (7 * k + v) else 0) (decide (t % 2 = 0)) 7).1 = ri_w K a b n t k := by
  have mv : ∀ v, v < 7 → ri_m (K 2 a) (K 2 b) (t + 1) (7 * k + v) = (ri_m (K 2 a) (K 2 b) t k).bind fun s => if t % 2 = 0 then (if ri_a s.1 v then some (ri_o s.1 v, s.2) else none) else (if ri_a s.2 v then some (s.1, ri_o s.2 v) else none) := fun v hv => by
    rw [ri_m_s, show (7 * k + v) / 7 = k by omega, show (7 * k + v) % 7 = v by omega]
  cases e : ri_m (K 2 a) (K 2 b) t k with
  | none =>
    have z : ∀ v, (if v < 7 then ri_w K a b n (t + 1) (7 * k + v) else 0) = 0 := fun v => by
      split
      · rename_i c
        unfold ri_w
        rw [mv v c, e]; rfl
      · rfl
    have w0 : ri_w K a b n t k = 0 := by unfold ri_w; rw [e]; rfl
    rw [w0]
    have : ∀ j, (ri_g (fun v => if v < 7 then ri_w K a b n (t + 1) (7 * k + v) else 0) (decide (t % 2 = 0)) j).1 = 0 := by
      intro j
      induction j with
      | zero => rfl
      | succ j ih =>
        rw [ri_g_s, if_neg (fun q => q.1 (z j))]
        exact ih
    exact this 7
  | some s =>
    have ws : ri_w K a b n t k = ri_v K a b (n - t) t s.1 s.2 + 1 := by unfold ri_w; rw [e]; rfl
    have nt : n - t = (n - (t + 1)) + 1 := by omega
    rw [ws, nt]
    by_cases c : t % 2 = 0
    · rw [ri_v_e K a b _ t s.1 s.2 c, decide_eq_true c]
      have eq : ri_g (fun v => if v < 7 then ri_w K a b n (t + 1) (7 * k + v) else 0) true 7 = ri_g (ri_e (ri_a s.1) (fun v => ri_v K a b (n - (t + 1)) (t + 1) (ri_o s.1 v) s.2)) true 7 := by
        refine ma_fo_cong 7 (fun v p hv => ?_)
        have : (if v < 7 then ri_w K a b n (t + 1) (7 * k + v) else 0) = ri_e (ri_a s.1) (fun v => ri_v K a b (n - (t + 1)) (t + 1) (ri_o s.1 v) s.2) v := by
          rw [if_pos hv]
          unfold ri_w ri_e
          rw [mv v hv, e, Option.bind_some, if_pos c]
          cases ri_a s.1 v <;> rfl
        dsimp only
        simp only [this]
      rw [eq]
      rcases ri_gA (al := ri_a s.1) (x := fun v => ri_v K a b (n - (t + 1)) (t + 1) (ri_o s.1 v) s.2) 7 with ⟨_, _, d⟩ | d
      · exact absurd (d 6 (by decide)) (by rw [ri_a6]; decide)
      · exact d
    · rw [ri_v_o K a b _ t s.1 s.2 c, decide_eq_false c]
      have eq : ri_g (fun v => if v < 7 then ri_w K a b n (t + 1) (7 * k + v) else 0) false 7 = ri_g (ri_e (ri_a s.2) (fun v => ri_v K a b (n - (t + 1)) (t + 1) s.1 (ri_o s.2 v))) false 7 := by
        refine ma_fo_cong 7 (fun v p hv => ?_)
        have : (if v < 7 then ri_w K a b n (t + 1) (7 * k + v) else 0) = ri_e (ri_a s.2) (fun v => ri_v K a b (n - (t + 1)) (t + 1) s.1 (ri_o s.2 v)) v := by
          rw [if_pos hv]
          unfold ri_w ri_e
          rw [mv v hv, e, Option.bind_some, if_neg c]
          cases ri_a s.2 v <;> rfl
        dsimp only
        simp only [this]
      rw [eq]
      rcases ri_gB (al := ri_a s.2) (x := fun v => ri_v K a b (n - (t + 1)) (t + 1) s.1 (ri_o s.2 v)) (fun v => ri_v_le K a b _ _ _ _) 7 with ⟨_, _, d⟩ | d
      · exact absurd (d 6 (by decide)) (by rw [ri_a6]; decide)
      · exact d
theorem ri_7 {n : Nat} (hn : n ≤ 4) : 7 ^ n ≤ 2401 := by
  have : 7 ^ n ≤ 7 ^ 4 := Nat.pow_le_pow_right (by decide) hn
  have : (7 : Nat) ^ 4 = 2401 := by decide
  omega
section
variable {h : pb_HP} {N : Nat} {K : ma_K} {a b n : Nat}
theorem m_238 (hn : n ≤ 4) (hN : 3000 < N) : f_238 N (nI n) = some (nI (7 ^ n)) := by
  have hl : pb_wl (f_238_4s N (nI n)) N ((fun j => (nI (7 ^ j), nI j)) 0) = some (nI (7 ^ n)) := by
    refine ma_wl (fun j => (nI (7 ^ j), nI j)) n N 0 (by omega) (fun j p q => ?_) ?_
    · simp only [f_238_4s, if_neg (nI_ge (show j < n by omega) (by omega)), lJ7, nI_1, Nat.pow_succ, Nat.mul_comm]
    · rw [Nat.zero_add]
      simp only [f_238_4s, if_pos (nI_le (Nat.le_refl n) (show n < 2 ^ 31 by omega))]
  have hl : pb_wl (f_238_4s N (nI n)) N (1, 0) = some (nI (7 ^ n)) := hl
  unfold f_238
  rw [hl]
  rfl
/-- a move on the model's side -/
theorem m_239s {m v z : Nat} {wt tt v1 v2 v3 v4 : Int32} {K2 : ma_K} (H : ma_H h) (M : ma_M h K2) (hm : m < 6) (ez : K2 2 m = z) (hz : z < 64) (hv : v < 7) : f_239_72 N h 217 v1 v2 v3 v4 wt tt (nI v) (nI m) = if ri_a z v then some (.inl (wt, tt + 1, pb_pI h 228 m (nI (ri_o z v)))) else some (.inr (.inl (-99, h))) := by
  have tm : pb_I h 228 m = nI z := by rw [← ez]; exact M.2.2.1 m hm
  have cm : (nI m).toNatClampNeg = m := nI_clamp (by omega)
  have z0 : nI z ||| 0 = nI z := by
    have := fa_or z 0
    rw [Nat.or_zero] at this
    exact this
  unfold f_239_72 ri_a ri_o
  by_cases c : v = 6
  · rw [if_pos ((lA6 (show v < 2 ^ 31 by omega)).mpr (by omega)), if_pos (by simp [c]), if_pos c]
    unfold f_239_99
    rw [if_pos (mi_217 H), mr_217_30 H, Option.bind_some, if_pos (mx_228 H hm), if_pos ((lA6 (show v < 2 ^ 31 by omega)).mpr (by omega))]
    unfold f_239_122
    rw [if_pos (mx_228 H hm), cm, tm, z0]
  · have n6 : ¬ (6 : Int32) ≤ nI v := fun q => by have := (lA6 (show v < 2 ^ 31 by omega)).mp q; omega
    rw [if_neg n6, if_pos (mi_217 H), mr_217_30 H, Option.bind_some, if_pos (mx_228 H hm), cm, tm, ma_has (show z < 2 ^ 31 by omega) (show v < 32 by omega), Option.bind_some]
    cases q : z.testBit v
    · rw [if_neg (show ¬ (false = true) by decide), if_pos rfl, if_pos (by simp), if_neg c]
      unfold f_239_99
      rw [if_pos (mi_217 H), mr_217_30 H, Option.bind_some, if_pos (mx_228 H hm), if_neg n6]
      unfold f_239_122
      rw [if_pos (mx_228 H hm), cm, tm, ma_shl (show v < 31 by omega), fa_or]
    · rw [if_pos rfl, if_neg (by decide), if_neg (by simp [c])]
theorem m_239 {k x y : Nat} (H : ma_H h) (Of : ma_of h K) (M : ma_M h (ri_k K a b x y)) (O : ma_OK K) (ha : a < K 0 0) (hb : b < K 0 0) (ab : a ≠ b) (hn : n ≤ 4) (hk : k < 7 ^ n) (hN : 3000 < N) : ∃ g x' y', f_239 N h 217 (nI a) (nI b) (nI n) (nI k) = some (ri_I (ri_w K a b n n k), g) ∧ ma_fr [228, 233] [] h g ∧ ma_M g (ri_k K a b x' y') := by
  have h6 := O.1
  have hx := (O.2.2.1 a).2.1
  have hy := (O.2.2.1 b).2.1
  have s7 := ri_7 hn
  obtain ⟨c, hc, ec, T⟩ := Of
  have ca : (nI a).toNatClampNeg = a := nI_clamp (by omega)
  have cb : (nI b).toNatClampNeg = b := nI_clamp (by omega)
  have z1 : f_197 h 217 (8 + nI a) = some (nI (K 2 a)) := by
    rw [lG8, m_197 H hc ec (a := 8 + a) (by omega), T.2.2.2.1 a (by omega)]
  obtain ⟨h1, e1⟩ : ∃ g, g = pb_pI h 228 a (nI (K 2 a)) := ⟨_, rfl⟩
  have H1 : ma_H h1 := by rw [e1]; exact H
  have z2 : f_197 h1 217 (8 + nI b) = some (nI (K 2 b)) := by
    rw [lG8, m_197 H1 hc (by rw [e1, ma_Ik, if_neg (by decide)]; exact ec) (a := 8 + b) (by omega), e1, ma_I_pI, if_neg (by decide), T.2.2.2.1 b (by omega)]
  obtain ⟨h2, e2⟩ : ∃ g, g = pb_pI h1 228 b (nI (K 2 b)) := ⟨_, rfl⟩
  have H2 : ma_H h2 := by rw [e2]; exact H1
  have f2 : ma_fr [228, 233] [] h h2 := by rw [e2, e1]; exact ma_fr_pI (ma_fr_pI (ma_fr_r _ _ _) (.inl (by decide)) _) (.inl (by decide)) _
  have M2 : ma_M h2 (ri_k K a b (K 2 a) (K 2 b)) := by
    have := ma_M_p2 (ma_M_p2 M a (K 2 a)) b (K 2 b)
    rw [ri_k_a ab, ri_k_b, ← e1, ← e2] at this
    exact this
  have lp : ∃ e, pb_wl (f_239_37s N 217 (nI a) (nI b) (nI n) (nI k)) N (nI (7 ^ n), 0, h2) = some e ∧ ((∃ g x' y', e = .inl (-99, g) ∧ ri_m (K 2 a) (K 2 b) n k = none ∧ ma_fr [228, 233] [] h g ∧ ma_M g (ri_k K a b x' y')) ∨ (∃ g x' y', e = .inr g ∧ ri_m (K 2 a) (K 2 b) n k = some (x', y') ∧ ma_fr [228, 233] [] h g ∧ ma_M g (ri_k K a b x' y'))) := by
    refine ma_lh (fun t s => ∃ g x' y', s = (nI (7 ^ (n - t)), nI t, g) ∧ ri_m (K 2 a) (K 2 b) t (k / 7 ^ (n - t)) = some (x', y') ∧ ma_fr [228, 233] [] h g ∧ ma_M g (ri_k K a b x' y')) _ n 0 N _ (by omega) (by omega) ⟨h2, K 2 a, K 2 b, rfl, rfl, f2, M2⟩ ?_ ?_
    · rintro t s _ ht ⟨g, x', y', rfl, em, fg, Mg⟩
      have Hg := ma_H_fr H fg
      have xy := ri_m_lt hx hy _ _ _ em
      have p1 : 7 ^ (n - t) = 7 ^ (n - (t + 1)) * 7 := by rw [← Nat.pow_succ]; congr 1; omega
      have p0 : 0 < 7 ^ (n - (t + 1)) := Nat.pow_pos (by decide)
      have pl : 7 ^ (n - (t + 1)) ≤ 2401 := ri_7 (by omega)
      have d1 : nI (7 ^ (n - t)) / 7 = nI (7 ^ (n - (t + 1))) := by
        rw [lL7 (by omega), p1, Nat.mul_div_cancel _ (by decide)]
      have nz : ¬ nI (7 ^ (n - (t + 1))) = 0 := fun q => by have := (lE0 (show 7 ^ (n - (t + 1)) < 2 ^ 31 by omega)).mp q; omega
      have kl : k / 7 ^ (n - (t + 1)) ≤ k := Nat.div_le_self _ _
      have d2 : nI k / nI (7 ^ (n - (t + 1))) = nI (k / 7 ^ (n - (t + 1))) := pk_div (by omega) (by omega) (by omega)
      have d3 : nI (k / 7 ^ (n - (t + 1))) - nI (k / 7 ^ (n - (t + 1))) / 7 * 7 = nI (k / 7 ^ (n - (t + 1)) % 7) := by
        rw [lL7 (by omega), lJ7, pk_sub (Nat.mul_div_le _ 7)]
        congr 1
        have := Nat.div_add_mod (k / 7 ^ (n - (t + 1))) 7
        omega
      have v7 : k / 7 ^ (n - (t + 1)) % 7 < 7 := Nat.mod_lt _ (by decide)
      have em2 : ri_m (K 2 a) (K 2 b) (t + 1) (k / 7 ^ (n - (t + 1))) = if t % 2 = 0 then (if ri_a x' (k / 7 ^ (n - (t + 1)) % 7) then some (ri_o x' (k / 7 ^ (n - (t + 1)) % 7), y') else none) else (if ri_a y' (k / 7 ^ (n - (t + 1)) % 7) then some (x', ri_o y' (k / 7 ^ (n - (t + 1)) % 7)) else none) := by
        rw [ri_m_s, Nat.div_div_eq_div_mul, ← p1, em, Option.bind_some]
      have wrong : ri_m (K 2 a) (K 2 b) (t + 1) (k / 7 ^ (n - (t + 1))) = none → ri_m (K 2 a) (K 2 b) n k = none := fun q => by
        have := ri_m_n (n - (t + 1)) k q
        rw [show t + 1 + (n - (t + 1)) = n by omega] at this
        exact this
      have top : f_239_37s N 217 (nI a) (nI b) (nI n) (nI k) (nI (7 ^ (n - t)), nI t, g) = if ¬ t % 2 = 0 then f_239_72 N g 217 (nI a) (nI b) (nI n) (nI k) (nI (7 ^ (n - (t + 1)))) (nI t) (nI (k / 7 ^ (n - (t + 1)) % 7)) (nI b) else f_239_72 N g 217 (nI a) (nI b) (nI n) (nI k) (nI (7 ^ (n - (t + 1)))) (nI t) (nI (k / 7 ^ (n - (t + 1)) % 7)) (nI a) := by
        unfold f_239_37s
        dsimp only
        simp only [if_neg (nI_ge ht (show n < 2 ^ 31 by omega)), d1, if_pos nz, d2, d3]
        by_cases c : t % 2 = 0
        · rw [if_neg (fun q => (ri_odd (show t < 2 ^ 30 by omega)).mp q c), if_neg (not_not_intro c)]
        · rw [if_pos ((ri_odd (show t < 2 ^ 30 by omega)).mpr c), if_pos c]
      rw [top]
      by_cases c : t % 2 = 0
      · rw [if_pos c] at em2
        rw [if_neg (not_not_intro c), m_239s Hg Mg (show a < 6 by omega) (ri_k_xa ab x' y') xy.1 v7]
        by_cases al : ri_a x' (k / 7 ^ (n - (t + 1)) % 7) = true
        · rw [if_pos al] at em2 ⊢
          left
          refine ⟨_, rfl, _, ri_o x' (k / 7 ^ (n - (t + 1)) % 7), y', by rw [nI_1], em2, ma_fr_pI fg (.inl (by decide)) _, ?_⟩
          have := ma_M_p2 Mg a (ri_o x' (k / 7 ^ (n - (t + 1)) % 7))
          rw [ri_k_a ab] at this
          exact this
        · rw [if_neg al] at em2 ⊢
          right
          exact ⟨_, rfl, .inl ⟨g, x', y', rfl, wrong em2, fg, Mg⟩⟩
      · rw [if_neg c] at em2
        rw [if_pos c, m_239s Hg Mg (show b < 6 by omega) (ri_k_xb x' y') xy.2 v7]
        by_cases al : ri_a y' (k / 7 ^ (n - (t + 1)) % 7) = true
        · rw [if_pos al] at em2 ⊢
          left
          refine ⟨_, rfl, _, x', ri_o y' (k / 7 ^ (n - (t + 1)) % 7), by rw [nI_1], em2, ma_fr_pI fg (.inl (by decide)) _, ?_⟩
          have := ma_M_p2 Mg b (ri_o y' (k / 7 ^ (n - (t + 1)) % 7))
          rw [ri_k_b] at this
          exact this
        · rw [if_neg al] at em2 ⊢
          right
          exact ⟨_, rfl, .inl ⟨g, x', y', rfl, wrong em2, fg, Mg⟩⟩
    · rintro s ⟨g, x', y', rfl, em, fg, Mg⟩
      rw [Nat.sub_self, Nat.pow_zero, Nat.div_one] at em
      refine ⟨.inr g, ?_, .inr ⟨g, x', y', rfl, em, fg, Mg⟩⟩
      unfold f_239_37s
      dsimp only
      rw [if_pos (nI_le (Nat.le_refl n) (show n < 2 ^ 31 by omega))]
  obtain ⟨e, le, lq⟩ := lp
  unfold f_239
  rw [if_pos (mi_217 H), mr_217_30 H, Option.bind_some, z1, Option.bind_some, if_pos (mx_228 H (show a < 6 by omega)), ca, ← e1, z2, Option.bind_some, if_pos (mx_228 H (show b < 6 by omega)), cb, ← e2, m_238 hn hN, Option.bind_some, le, Option.bind_some]
  unfold ri_w
  rcases lq with ⟨g, x', y', rfl, em, fg, Mg⟩ | ⟨g, x', y', rfl, em, fg, Mg⟩
  · rw [em]
    exact ⟨g, x', y', rfl, fg, Mg⟩
  · have xy := ri_m_lt hx hy _ _ _ em
    have Hg := ma_H_fr H fg
    have OK := ri_k_OK O ha hb xy.1 xy.2
    obtain ⟨g2, b1, b2⟩ := m_210p (N := N) Hg Mg OK hN
    have p6 : sp_p63 (ri_k K a b x' y') ≤ 6 := sp_pk_le OK _ 63
    refine ⟨g2, x', y', ?_, ma_fr_t fg (ma_fr_w b2 (by decide) (by decide)), ma_M_fr Mg b2 (by decide) (by decide)⟩
    dsimp only
    rw [if_pos (mi_217 Hg), b1, Option.bind_some, em, Nat.sub_self]
    show _ = some (ri_I (ri_l K a b x' y' + 1), g2)
    unfold ri_l
    by_cases e1 : sp_p63 (ri_k K a b x' y') = a
    · rw [if_neg (not_not_intro (by rw [e1])), if_pos e1]; rfl
    · rw [if_pos (fun q => e1 ((nI_eq (show sp_p63 (ri_k K a b x' y') < 2 ^ 31 by omega) (show a < 2 ^ 31 by omega)).mp q)), if_neg e1]
      by_cases e2 : sp_p63 (ri_k K a b x' y') = b
      · rw [if_neg (not_not_intro (by rw [e2])), if_pos e2]; rfl
      · rw [if_pos (fun q => e2 ((nI_eq (show sp_p63 (ri_k K a b x' y') < 2 ^ 31 by omega) (show b < 2 ^ 31 by omega)).mp q)), if_neg e2]; rfl
theorem m_240 {at' : Nat} {e : Nat → Nat} (H : ma_H h) (he : ∀ v, v < 7 → pb_I h 234 (at' + v) = ri_I (e v)) (e3 : ∀ v, e v ≤ 3) (ha : at' + 7 ≤ 2401) (mo : Bool) (hN : 3000 < N) : ∃ g, f_240 N h 217 (nI at') (if mo then 1 else 0) = some (ri_I (ri_g e mo 7).1, g) ∧ ma_fr [] [(217, 38)] h g ∧ pb_I g 217 38 = mI (ri_g e mo 7).2 := by
  have lp : ∃ x, pb_wl (f_240_11s N 217 (nI at') (if mo then 1 else 0)) N (-99, 0, pb_pI h 217 38 (-1)) = some x ∧ (x.1 = ri_I (ri_g e mo 7).1 ∧ ma_fr [] [(217, 38)] h x.2 ∧ pb_I x.2 217 38 = mI (ri_g e mo 7).2) := by
    refine ma_lh (fun j s => ∃ g, s = (ri_I (ri_g e mo j).1, nI j, g) ∧ ma_fr [] [(217, 38)] h g ∧ pb_I g 217 38 = mI (ri_g e mo j).2) _ 7 0 N _ (by omega) (by omega) ⟨_, rfl, ma_fr_pI (ma_fr_r _ _ _) (.inr (by decide)) _, by rw [ma_Ik, if_pos rfl, if_pos rfl]; rfl⟩ ?_ ?_
    · rintro j s _ hj ⟨g, rfl, fg, k38⟩
      have Hg := ma_H_fr H fg
      have n7 : ¬ (7 : Int32) ≤ nI j := nI_ge (b := 7) hj (by decide)
      have ej : pb_I g 234 (at' + j) = ri_I (e j) := by rw [ma_fr_o fg (by decide) (by decide)]; exact he j hj
      have gl := ri_g_le (mo := mo) e3 j
      have d1 := ri_I_d (e j) (e3 j)
      have d2 := ri_I_d (ri_g e mo j).1 gl.1
      have gs := ri_g_s e mo j
      left
      have keep : ¬ ri_b mo (ri_g e mo j).1 (e j) → ∃ s', some (.inl (ri_I (ri_g e mo j).1, nI (j + 1), g)) = some (Sum.inl (β := Int32 × pb_HP) s') ∧ ∃ g', s' = (ri_I (ri_g e mo (j + 1)).1, nI (j + 1), g') ∧ ma_fr [] [(217, 38)] h g' ∧ pb_I g' 217 38 = mI (ri_g e mo (j + 1)).2 := fun q => by
        rw [gs, if_neg q]
        exact ⟨_, rfl, g, rfl, fg, k38⟩
      have take : ri_b mo (ri_g e mo j).1 (e j) → ∃ s', f_240_61 N g 217 (nI at') (if mo then 1 else 0) (nI j) (ri_I (e j)) = some (.inl s') ∧ ∃ g', s' = (ri_I (ri_g e mo (j + 1)).1, nI (j + 1), g') ∧ ma_fr [] [(217, 38)] h g' ∧ pb_I g' 217 38 = mI (ri_g e mo (j + 1)).2 := fun q => by
        rw [gs, if_pos q]
        unfold f_240_61
        rw [if_pos (mi_217 Hg), nI_1]
        exact ⟨_, rfl, _, rfl, ma_fr_pI fg (.inr (by decide)) _, by rw [ma_Ik, if_pos rfl, if_pos rfl, mI_s]⟩
      unfold f_240_11s
      dsimp only
      rw [if_neg n7, if_pos (mi_217 Hg), mr_217_37 Hg, Option.bind_some, nI_add, if_pos (mx_234 Hg (show at' + j < 2401 by omega)), nI_clamp (show at' + j < 2 ^ 31 by omega), ej, nI_1]
      by_cases z0 : e j = 0
      · rw [if_pos (d1.1.mpr z0)]
        exact keep (fun q => q.1 z0)
      · rw [if_neg (fun q => z0 (d1.1.mp q))]
        by_cases s0 : (ri_g e mo j).1 = 0
        · rw [if_pos (d2.1.mpr s0)]
          exact take ⟨z0, .inl s0⟩
        · rw [if_neg (fun q => s0 (d2.1.mp q))]
          cases mo with
          | false =>
            rw [if_pos (show (if false = true then (1 : Int32) else 0) = 0 from rfl)]
            have cmp := d2.2 (e j) (e3 j) s0 z0
            by_cases l : (ri_g e false j).1 ≤ e j
            · rw [if_pos (cmp.mpr l)]
              exact keep (fun q => by rw [ri_b_f] at q; omega)
            · rw [if_neg (fun q => l (cmp.mp q))]
              exact take (ri_b_f.mpr ⟨z0, .inr (by omega)⟩)
          | true =>
            rw [if_neg (show ¬ (if true = true then (1 : Int32) else 0) = 0 by decide)]
            have cmp := d1.2 (ri_g e true j).1 gl.1 z0 s0
            by_cases l : e j ≤ (ri_g e true j).1
            · rw [if_pos (cmp.mpr l)]
              exact keep (fun q => by rw [ri_b_t] at q; omega)
            · rw [if_neg (fun q => l (cmp.mp q))]
              exact take (ri_b_t.mpr ⟨z0, .inr (by omega)⟩)
    · rintro s ⟨g, rfl, fg, k38⟩
      refine ⟨(ri_I (ri_g e mo 7).1, g), ?_, rfl, fg, k38⟩
      unfold f_240_11s
      dsimp only
      rw [if_pos (show (7 : Int32) ≤ nI 7 by decide)]
  obtain ⟨⟨x, g⟩, x1, x2, x3, x4⟩ := lp
  dsimp only at x2 x3 x4
  subst x2
  refine ⟨g, ?_, x3, x4⟩
  unfold f_240
  rw [if_pos (mi_217 H), x1]
  rfl
end
