/-! Likings by a log: sums, which fit. -/
def sp_sm (n s : Nat) : Nat := ma_fo (fun t a => if s.testBit t then a + sp_dg n t else a) 6 0
theorem sp_dg_le (n t : Nat) : sp_dg n t ≤ 2 := by
  have := Nat.mod_lt (n / 3 ^ (5 - t)) (show 0 < 3 by decide)
  unfold sp_dg; omega
theorem sp_sm_le (n s : Nat) : sp_sm n s ≤ 12 := by
  have := ma_fo_inv (g := fun t a => if s.testBit t then a + sp_dg n t else a) (P := fun j a => a ≤ 2 * j) (a0 := 0) (Nat.le_refl _) 6 (fun j a _ ha => by
    have := sp_dg_le n j
    split <;> omega)
  exact this
def sp_o12 (x : Nat) : Nat := ma_fo (fun k a => if x.testBit k then a + 1 else a) 12 0
theorem m_305b {x : Nat} (hx : x < 4096) : f_305 (nI x) = some (nI (sp_o12 x)) := by
  have : ∀ a b : Fin 64, f_305 (nI (64 * a.val + b.val)) = some (nI (sp_o12 (64 * a.val + b.val))) := by decide +kernel
  have h := this ⟨x / 64, by omega⟩ ⟨x % 64, by omega⟩
  dsimp only at h
  rw [show 64 * (x / 64) + x % 64 = x by omega] at h
  exact h
theorem ma_mkb {n t : Nat} (hn : n < 729) (ht : t < 6) : (sp_mk n).testBit t = decide (1 ≤ sp_dg n t) ∧ (sp_mk n).testBit (t + 6) = decide (sp_dg n t = 2) ∧ sp_mk n < 4096 := by
  have : ∀ (a b : Fin 27) (t : Fin 6), (sp_mk (27 * a.val + b.val)).testBit t.val = decide (1 ≤ sp_dg (27 * a.val + b.val) t.val) ∧ (sp_mk (27 * a.val + b.val)).testBit (t.val + 6) = decide (sp_dg (27 * a.val + b.val) t.val = 2) ∧ sp_mk (27 * a.val + b.val) < 4096 := by decide +kernel
  have h := this ⟨n / 27, by omega⟩ ⟨n % 27, by omega⟩ ⟨t, ht⟩
  dsimp only at h
  rw [show 27 * (n / 27) + n % 27 = n by omega] at h
  exact h
theorem ma_dbl {s t : Nat} (hs : s < 64) (ht : t < 6) : (s ||| 64 * s).testBit t = s.testBit t ∧ (s ||| 64 * s).testBit (t + 6) = s.testBit t ∧ s ||| 64 * s < 4096 ∧ nI s <<< ((6 : Int32) &&& 31) = nI (64 * s) := by
  have : ∀ (s : Fin 64) (t : Fin 6), (s.val ||| 64 * s.val).testBit t.val = s.val.testBit t.val ∧ (s.val ||| 64 * s.val).testBit (t.val + 6) = s.val.testBit t.val ∧ s.val ||| 64 * s.val < 4096 ∧ nI s.val <<< ((6 : Int32) &&& 31) = nI (64 * s.val) := by decide +kernel
  exact this ⟨s, hs⟩ ⟨t, ht⟩
theorem sp_o12_sm {n s : Nat} (hn : n < 729) (hs : s < 64) : sp_o12 (sp_mk n &&& (s ||| 64 * s)) = sp_sm n s := by
  have f : ∀ t, t < 6 → (if (sp_mk n &&& (s ||| 64 * s)).testBit t then 1 else 0) + (if (sp_mk n &&& (s ||| 64 * s)).testBit (t + 6) then 1 else 0) = if s.testBit t then sp_dg n t else 0 := by
    intro t ht
    have a := ma_mkb hn ht
    have b := ma_dbl hs ht
    have d := sp_dg_le n t
    rw [Nat.testBit_and, Nat.testBit_and, a.1, a.2.1, b.1, b.2.1]
    have : sp_dg n t = 0 ∨ sp_dg n t = 1 ∨ sp_dg n t = 2 := by omega
    cases s.testBit t
    · simp
    · rcases this with e | e | e <;> rw [e] <;> rfl
  have e12 : ∀ g : Nat → Nat → Nat, ma_fo g 12 0 = g 11 (g 10 (g 9 (g 8 (g 7 (g 6 (g 5 (g 4 (g 3 (g 2 (g 1 (g 0 0))))))))))) := fun g => rfl
  have e6 : ∀ g : Nat → Nat → Nat, ma_fo g 6 0 = g 5 (g 4 (g 3 (g 2 (g 1 (g 0 0))))) := fun g => rfl
  have f0 := f 0 (by decide)
  have f1 := f 1 (by decide)
  have f2 := f 2 (by decide)
  have f3 := f 3 (by decide)
  have f4 := f 4 (by decide)
  have f5 := f 5 (by decide)
  unfold sp_o12 sp_sm
  simp only [e12, e6, ma_ifadd]
  simp only [Nat.zero_add, Nat.reduceAdd] at f0 f1 f2 f3 f4 f5
  omega
section
variable {h : pb_HP} {N : Nat}
theorem c_62 (H : ma_H h) (mk : ∀ n, n < 729 → pb_I h 214 n = nI (sp_mk n)) {n s : Nat} (hn : n < 729) (hs : s < 64) : f_62 h 212 (nI n) (nI s) = some (nI (sp_sm n s)) := by
  have b := ma_dbl hs (t := 0) (by decide)
  have a := ma_mkb hn (t := 0) (by decide)
  have hx : sp_mk n &&& (s ||| 64 * s) < 4096 := Nat.lt_of_le_of_lt Nat.and_le_left a.2.2
  have e : f_305 (pb_I h 214 n &&& (nI s ||| nI s <<< ((6 : Int32) &&& 31))) = some (nI (sp_sm n s)) := by
    rw [mk n hn, b.2.2.2, fa_or, fa_and, m_305b hx, sp_o12_sm hn hs]
  simp only [f_62, if_pos (mi_212 H), mr_212_2 H, Option.bind_some, if_pos (mx_214 H hn), nI_clamp (show n < 2 ^ 31 by omega), e]
theorem m_247 {n t : Nat} (hn : n < 729) (ht : t < 6) (hN : 3000 < N) : f_247 N (nI n) (nI t) = some (nI (sp_dg n t)) := by
  have hl : pb_wl (f_247_4s N (nI t)) N (nI n, 5) = some (nI (n / 3 ^ (5 - t))) := by
    have h0 : (nI n, (5 : Int32)) = (fun j => (nI (n / 3 ^ j), nI (5 - j))) 0 := by
      show _ = (nI (n / 3 ^ 0), nI 5)
      rw [Nat.pow_zero, Nat.div_one]; rfl
    rw [h0]
    refine ma_wl (fun j => (nI (n / 3 ^ j), nI (5 - j))) (5 - t) N 0 (by omega) (fun j _ hj => ?_) ?_
    · have hd : n / 3 ^ j < 2 ^ 31 := Nat.lt_of_le_of_lt (Nat.div_le_self _ _) (by omega)
      have e1 : ¬ nI (5 - j) ≤ nI t := nI_ge (by omega) (by omega)
      have e2 : nI (5 - j) + (-1) = nI (5 - (j + 1)) := by
        rw [show 5 - j = (5 - (j + 1)) + 1 by omega]; exact pk_m1 _
      simp only [f_247_4s, if_neg e1, e2, lL3 hd, Nat.div_div_eq_div_mul, Nat.pow_succ]
    · rw [Nat.zero_add]
      have e1 : nI (5 - (5 - t)) ≤ nI t := nI_le (by omega) (by omega)
      simp only [f_247_4s, if_pos e1]
  have hd : n / 3 ^ (5 - t) < 2 ^ 31 := Nat.lt_of_le_of_lt (Nat.div_le_self _ _) (by omega)
  simp only [f_247, hl, Option.bind_some]
  have := pk_rem (a := n / 3 ^ (5 - t)) (d := 3) hd (by decide) (by decide)
  exact congrArg some this
theorem m_248 {n s : Nat} (hn : n < 729) (hs : s < 64) (hN : 3000 < N) : f_248 N (nI n) (nI s) = some (nI (sp_sm n s)) := by
  have hl : pb_wl (f_248_4s N (nI n) (nI s)) N (0, 0) = some (nI (sp_sm n s)) := by
    refine ma_lq (fun j a => (nI a, nI j)) (fun t a => if s.testBit t then a + sp_dg n t else a) 6 (by omega) rfl (fun j a hj => ?_) rfl
    have e1 : ¬ (6 : Int32) ≤ nI j := (not_congr (lA6 (by omega))).mpr (by omega)
    have e2 := ma_has (s := s) (k := j) (by omega) (by omega)
    simp only [f_248_4s, if_neg e1, e2, Option.bind_some, ma_b0, m_247 hn hj hN, nI_add, lH0, nI_1]
    cases s.testBit j <;> simp
  simp only [f_248, hl, Option.bind_some]
theorem m_249 {n a b : Nat} (hn : n < 729) (ha : a < 64) (hb : b < 64) (hN : 3000 < N) : f_249 N (nI n) (nI a) (nI b) = some (if sp_sm n b < sp_sm n a then 1 else 0) := by
  have b1 := sp_sm_le n a
  have b2 := sp_sm_le n b
  have le : (nI (sp_sm n a) ≤ nI (sp_sm n b)) = (sp_sm n a ≤ sp_sm n b) := propext (nI_leI (by omega) (by omega))
  simp only [f_249, m_248 hn ha hN, m_248 hn hb hN, Option.bind_some, le]
  by_cases q : sp_sm n b < sp_sm n a
  · rw [if_pos q, if_neg (by omega)]
  · rw [if_neg q, if_pos (by omega)]
/-- a fact: kind, two sets -/
abbrev ma_ff : Type := Nat × Nat × Nat
def ma_fd (D : Nat → ma_ff) (Y : ma_Y) : Prop := ∀ k, k < Y.1 → Y.2 k 0 = nI (D k).1 ∧ (D k).1 ≤ 1 ∧ Y.2 k 1 = nI (D k).2.1 ∧ (D k).2.1 < 64 ∧ Y.2 k 2 = nI (D k).2.2 ∧ (D k).2.2 < 64
theorem ma_fds {Y : ma_Y} (hg : ∀ j, j < Y.1 → ma_gf (Y.2 j)) : ∃ D, ma_fd D Y := by
  refine (Classical.skolem (b := fun _ => ma_ff) (p := fun k d => k < Y.1 → Y.2 k 0 = nI d.1 ∧ d.1 ≤ 1 ∧ Y.2 k 1 = nI d.2.1 ∧ d.2.1 < 64 ∧ Y.2 k 2 = nI d.2.2 ∧ d.2.2 < 64)).mp (fun k => ?_)
  by_cases hk : k < Y.1
  · obtain ⟨q, a, b, h1, h2, h3, h4, h5, h6⟩ := hg k hk
    exact ⟨(q, a, b), fun _ => ⟨h1, h2, h3, h4, h5, h6⟩⟩
  · exact ⟨(0, 0, 0), fun z => absurd z hk⟩
def sp_f1 (D : Nat → ma_ff) (n k : Nat) : Bool := decide (sp_sm n (D k).2.2 < sp_sm n (D k).2.1) == decide ((D k).1 = 0)
def sp_fa (D : Nat → ma_ff) (n m : Nat) : Bool := ma_fo (fun k r => r && sp_f1 D n k) m true
theorem sp_fa_f {D : Nat → ma_ff} {n k : Nat} (h : sp_f1 D n k = false) : ∀ m, k < m → sp_fa D n m = false
  | m + 1, hk => by
    show (sp_fa D n m && sp_f1 D n m) = false
    by_cases e : k = m
    · rw [← e, h, Bool.and_false]
    · rw [sp_fa_f h m (by omega), Bool.false_and]
theorem c_61 (H : ma_H h) (mk : ∀ n, n < 729 → pb_I h 214 n = nI (sp_mk n)) {l : Nat} {Y : ma_Y} {D : Nat → ma_ff} (L : ma_L h l 8 2 Y) (hY : Y.1 ≤ 8) (hD : ma_fd D Y) {n : Nat} (hn : n < 729) (hN : 3000 < N) : f_61 N h 212 l (nI n) = some (if sp_fa D n Y.1 then 1 else 0) := by
  have Lc := L.1
  have li := wl_is H L
  have st : ∀ k, k < Y.1 → f_61_2s N h 212 l (nI n) (nI k) = if sp_f1 D n k then some (.inl (nI (k + 1))) else some (.inr (.inl 0)) := by
    intro k hk
    obtain ⟨d1, d2, d3, d4, d5, d6⟩ := hD k hk
    have e := L.2.2.2 k hk
    have b1 := sp_sm_le n (D k).2.1
    have b2 := sp_sm_le n (D k).2.2
    have le : (nI (sp_sm n (D k).2.1) ≤ nI (sp_sm n (D k).2.2)) = (sp_sm n (D k).2.1 ≤ sp_sm n (D k).2.2) := propext (nI_leI (by omega) (by omega))
    have ez : (nI (D k).1 = 0) = ((D k).1 = 0) := propext (lE0 (by omega))
    simp only [f_61_2s, f_61_40, f_61_58, if_pos li, L.2.1, if_neg (nI_ge hk (show Y.1 < 2 ^ 31 by omega)), wl_r1 H Lc, wl_r2 H Lc, wl_r3 H Lc, Option.bind_some, if_pos (wl_x1 H Lc (by decide) (show k < 8 by omega)), if_pos (wl_x2 H Lc (by decide) (show k < 8 by omega)), if_pos (wl_x3 H Lc (by decide) (show k < 8 by omega)), if_pos (mi_212 H), nI_clamp (show k < 2 ^ 31 by omega), e.1, e.2.1, e.2.2.1, d1, d3, d5, c_62 H mk hn d4, c_62 H mk hn d6, le, ez, i10, i01, if_true, if_false, nI_1]
    unfold sp_f1
    by_cases q1 : sp_sm n (D k).2.2 < sp_sm n (D k).2.1
    · have q3 : ¬ sp_sm n (D k).2.1 ≤ sp_sm n (D k).2.2 := by omega
      by_cases q2 : (D k).1 = 0 <;> simp [q1, q2, q3]
    · have q3 : sp_sm n (D k).2.1 ≤ sp_sm n (D k).2.2 := by omega
      by_cases q2 : (D k).1 = 0 <;> simp [q1, q2, q3]
  have hl : ∃ e, pb_wl (f_61_2s N h 212 l (nI n)) N 0 = some e ∧ ((e = .inr () ∧ sp_fa D n Y.1 = true) ∨ (e = .inl 0 ∧ sp_fa D n Y.1 = false)) := by
    refine ma_lh (fun j s => s = nI j ∧ sp_fa D n j = true) _ Y.1 0 N 0 (by omega) (by omega) ⟨rfl, rfl⟩ ?_ ?_
    · rintro j s _ hj ⟨rfl, hf⟩
      rw [st j hj]
      cases q : sp_f1 D n j
      · right
        refine ⟨.inl 0, by simp, .inr ⟨rfl, sp_fa_f q _ hj⟩⟩
      · left
        refine ⟨nI (j + 1), by simp, rfl, ?_⟩
        show (sp_fa D n j && sp_f1 D n j) = true
        rw [hf, q]; rfl
    · rintro s ⟨rfl, hf⟩
      refine ⟨.inr (), ?_, .inl ⟨rfl, hf⟩⟩
      simp only [f_61_2s, if_pos li, L.2.1, if_pos (nI_le (Nat.le_refl _) (show Y.1 < 2 ^ 31 by omega))]
  obtain ⟨e, a1, a2⟩ := hl
  unfold f_61
  rw [a1]
  rcases a2 with ⟨rfl, z⟩ | ⟨rfl, z⟩ <;> rw [z] <;> rfl
theorem m_250 (H : ma_H h) {y : Nat} {Y : ma_Y} {D : Nat → ma_ff} (hy : y < 2) (e39 : pb_I h 217 39 = nI y) (Ly : ma_Ly h 225 (25 * y) 3 Y) (hY : Y.1 ≤ 8) (hD : ma_fd D Y) {n : Nat} (hn : n < 729) (hN : 3000 < N) : f_250 N h 217 (nI n) = some (if sp_fa D n Y.1 then 1 else 0) := by
  have sz := m_szl H hy e39 Ly
  have st : ∀ k, k < Y.1 → f_250_4s N h 217 (nI n) (1, nI k) = some (.inl (if sp_f1 D n k then 1 else 0, nI (k + 1))) := by
    intro k hk
    obtain ⟨d1, d2, d3, d4, d5, d6⟩ := hD k hk
    have o0 : f_243 h 217 (nI k) 0 = some (Y.2 k 0) := m_ofl (i := 0) H hy e39 Ly hY hk (by decide)
    have o1 : f_243 h 217 (nI k) 1 = some (Y.2 k 1) := m_ofl (i := 1) H hy e39 Ly hY hk (by decide)
    have o2 : f_243 h 217 (nI k) 2 = some (Y.2 k 2) := m_ofl (i := 2) H hy e39 Ly hY hk (by decide)
    have ez : (nI (D k).1 = 0) = ((D k).1 = 0) := propext (lE0 (by omega))
    simp only [f_250_4s, f_250_46, if_pos (mi_217 H), sz, Option.bind_some, if_neg (nI_ge hk (show Y.1 < 2 ^ 31 by omega)), i10, if_false, o0, o1, o2, d1, d3, d5, m_249 hn d4 d6 hN, ez, nI_1]
    unfold sp_f1
    by_cases q1 : sp_sm n (D k).2.2 < sp_sm n (D k).2.1 <;> by_cases q2 : (D k).1 = 0 <;> simp [q1, q2]
  have hl : ∃ e, pb_wl (f_250_4s N h 217 (nI n)) N (1, 0) = some e ∧ e = (if sp_fa D n Y.1 then 1 else 0) := by
    refine ma_lh (fun j s => s.2 = nI j ∧ s.1 = (if sp_fa D n j then 1 else 0) ∧ (sp_fa D n j = false → sp_fa D n Y.1 = false)) _ Y.1 0 N _ (by omega) (by omega) ⟨rfl, rfl, fun z => by cases z⟩ ?_ ?_
    · rintro j ⟨s, i⟩ _ hj ⟨hi, hs, hz⟩
      dsimp only at hi hs
      subst hi
      cases q : sp_fa D n j
      · rw [q] at hs
        subst hs
        right
        refine ⟨0, ?_, by rw [hz q]; rfl⟩
        simp only [f_250_4s, if_pos (mi_217 H), sz, Option.bind_some, if_neg (nI_ge hj (show Y.1 < 2 ^ 31 by omega)), Bool.false_eq_true, if_false, if_true]
      · rw [q] at hs
        subst hs
        left
        have e : sp_fa D n (j + 1) = sp_f1 D n j := by
          show (sp_fa D n j && sp_f1 D n j) = _
          rw [q, Bool.true_and]
        refine ⟨(if sp_f1 D n j then 1 else 0, nI (j + 1)), st j hj, rfl, by rw [e], fun z => ?_⟩
        rw [e] at z
        exact sp_fa_f z _ hj
    · rintro ⟨s, i⟩ ⟨hi, hs, hz⟩
      dsimp only at hi hs
      subst hi; subst hs
      refine ⟨_, ?_, rfl⟩
      simp only [f_250_4s, if_pos (mi_217 H), sz, Option.bind_some, if_pos (nI_le (Nat.le_refl _) (show Y.1 < 2 ^ 31 by omega))]
  obtain ⟨e, a1, rfl⟩ := hl
  unfold f_250
  rw [a1, Option.bind_some, if_pos (by cases sp_fa D n Y.1 <;> simp)]
/-- how many fit of the first n numbers, and which -/
def sp_gfg (D : Nat → ma_ff) (m n : Nat) (a : Nat × (Nat → Nat)) : Nat × (Nat → Nat) := if sp_fa D n m then (a.1 + 1, fun i => if i = a.1 then n else a.2 i) else a
def sp_gf (D : Nat → ma_ff) (m n : Nat) : Nat × (Nat → Nat) := ma_fo (sp_gfg D m) n (0, fun _ => 0)
theorem sp_gf_s (D : Nat → ma_ff) (m n : Nat) : sp_gf D m (n + 1) = sp_gfg D m n (sp_gf D m n) := ma_fo_s _ _ _
theorem sp_gf_le (D : Nat → ma_ff) (m : Nat) : ∀ n, (sp_gf D m n).1 ≤ n ∧ ∀ i, (sp_gf D m n).2 i ≤ n - 1
  | 0 => ⟨Nat.le_refl _, fun _ => Nat.le_refl _⟩
  | n + 1 => by
    have ih := sp_gf_le D m n
    rw [sp_gf_s]
    unfold sp_gfg
    split
    · refine ⟨by dsimp only; omega, fun i => ?_⟩
      dsimp only
      have := ih.2 i
      split <;> omega
    · exact ⟨by omega, fun i => by have := ih.2 i; omega⟩
/-- what is gathered, on both sides -/
def ma_ga (h : pb_HP) (R : Nat × (Nat → Nat)) : Prop := pb_I h 212 0 = nI R.1 ∧ ∀ i, i < R.1 → pb_I h 213 i = nI (R.2 i)
def ma_gb (h : pb_HP) (R : Nat × (Nat → Nat)) : Prop := pb_I h 217 41 = nI R.1 ∧ ∀ i, i < R.1 → pb_I h 235 i = nI (R.2 i)
theorem c_60 (H : ma_H h) (mk : ∀ n, n < 729 → pb_I h 214 n = nI (sp_mk n)) {l : Nat} {Y : ma_Y} {D : Nat → ma_ff} (hl40 : l ≤ 40) (L : ma_L h l 8 2 Y) (hY : Y.1 ≤ 8) (hD : ma_fd D Y) (hN : 3000 < N) : ∃ g, f_60 N h 212 l = some g ∧ ma_fr [212, 213] [] h g ∧ ma_ga g (sp_gf D Y.1 729) := by
  have hl : ∃ e, pb_wl (f_60_7s N 212 l) N (0, pb_pI h 212 0 0) = some e ∧ (ma_fr [212, 213] [] h e ∧ ma_ga e (sp_gf D Y.1 729)) := by
    refine ma_lh (fun j s => s.1 = nI j ∧ ma_fr [212, 213] [] h s.2 ∧ ma_ga s.2 (sp_gf D Y.1 j)) _ 729 0 N _ (by omega) (by omega) ⟨rfl, ma_fr_pI (ma_fr_r _ _ _) (.inl (by decide)) _, rfl, fun i hi => absurd hi (Nat.not_lt_zero i)⟩ ?_ ?_
    · rintro j ⟨i, g⟩ _ hj ⟨hi, hf, hg⟩
      dsimp only at hi hf hg
      subst hi
      left
      have H2 := ma_H_fr H hf
      have mk2 : ∀ n, n < 729 → pb_I g 214 n = nI (sp_mk n) := fun n hn => by rw [ma_fr_o hf (by decide) (by decide)]; exact mk n hn
      have L2 : ma_L g l 8 2 Y := ma_L_e L (fun o a b => ma_fr_o hf (by simp; omega) (by simp))
      have e1 : ¬ (729 : Int32) ≤ nI j := (not_congr (lA729 (by omega))).mpr (by omega)
      have e2 := c_61 (N := N) H2 mk2 L2 hY hD hj hN
      have hle := sp_gf_le D Y.1 j
      rw [sp_gf_s]
      unfold sp_gfg
      cases q : sp_fa D j Y.1
      · rw [q] at e2
        refine ⟨(nI (j + 1), g), ?_, rfl, hf, hg⟩
        simp only [f_60_7s, if_neg e1, if_pos (mi_212 H2), e2, Option.bind_some, Bool.false_eq_true, if_false, if_true, nI_1]
      · rw [q] at e2
        have ec : pb_I (pb_pI g 213 (sp_gf D Y.1 j).1 (nI j)) 212 0 = nI (sp_gf D Y.1 j).1 := by rw [ma_Ik, if_neg (by decide)]; exact hg.1
        refine ⟨(nI (j + 1), pb_pI (pb_pI g 213 (sp_gf D Y.1 j).1 (nI j)) 212 0 (nI ((sp_gf D Y.1 j).1 + 1))), ?_, rfl, ma_fr_pI (ma_fr_pI hf (.inl (by decide)) _) (.inl (by decide)) _, ?_, fun i hi => ?_⟩
        · simp only [f_60_7s, if_neg e1, if_pos (mi_212 H2), e2, Option.bind_some, if_true, i10, if_false, mr_212_1 H2, hg.1, if_pos (mx_213 H2 (show (sp_gf D Y.1 j).1 < 729 by omega)), nI_clamp (show (sp_gf D Y.1 j).1 < 2 ^ 31 by omega), ec, nI_1]
        · simp only [if_true]
          rw [ma_Ik, if_pos rfl, if_pos rfl]
        · simp only [if_true] at hi ⊢
          rw [ma_Ik, if_neg (by decide), ma_Ik, if_pos rfl]
          by_cases e : i = (sp_gf D Y.1 j).1
          · rw [if_pos e, if_pos e]
          · rw [if_neg e, if_neg e]; exact hg.2 i (by omega)
    · rintro ⟨i, g⟩ ⟨hi, hf, hg⟩
      dsimp only at hi hf hg
      subst hi
      exact ⟨g, rfl, hf, hg⟩
  obtain ⟨g, a1, a2⟩ := hl
  refine ⟨g, ?_, a2⟩
  simp only [f_60, if_pos (mi_212 H), a1, Option.bind_some]
theorem m_251l (H : ma_H h) {y : Nat} {Y : ma_Y} {D : Nat → ma_ff} (hy : y < 2) (e39 : pb_I h 217 39 = nI y) (Ly : ma_Ly h 225 (25 * y) 3 Y) (hY : Y.1 ≤ 8) (hD : ma_fd D Y) (hN : 3000 < N) : ∃ g, pb_wl (f_251_17s N 217) N (0, pb_pI h 217 41 0) = some g ∧ ma_fr [235] [(217, 41)] h g ∧ ma_gb g (sp_gf D Y.1 729) := by
  refine ma_lh (fun j s => s.1 = nI j ∧ ma_fr [235] [(217, 41)] h s.2 ∧ ma_gb s.2 (sp_gf D Y.1 j)) _ 729 0 N _ (by omega) (by omega) ⟨rfl, ma_fr_pI (ma_fr_r _ _ _) (.inr (by decide)) _, rfl, fun i hi => absurd hi (Nat.not_lt_zero i)⟩ ?_ ?_
  · rintro j ⟨i, g⟩ _ hj ⟨hi, hf, hg⟩
    dsimp only at hi hf hg
    subst hi
    left
    have H2 := ma_H_fr H hf
    have e39' : pb_I g 217 39 = nI y := by rw [hf.2.2 217 39 (by decide) (by decide)]; exact e39
    have Ly2 : ma_Ly g 225 (25 * y) 3 Y := ma_Ly_e Ly (ma_fr_o hf (by decide) (by decide))
    have e1 : ¬ (729 : Int32) ≤ nI j := (not_congr (lA729 (by omega))).mpr (by omega)
    have e2 := m_250 (N := N) H2 hy e39' Ly2 hY hD hj hN
    have hle := sp_gf_le D Y.1 j
    rw [sp_gf_s]
    unfold sp_gfg
    cases q : sp_fa D j Y.1
    · rw [q] at e2
      refine ⟨(nI (j + 1), g), ?_, rfl, hf, hg⟩
      simp only [f_251_17s, if_neg e1, if_pos (mi_217 H2), e2, Option.bind_some, Bool.false_eq_true, if_false, if_true, nI_1]
    · rw [q] at e2
      have ec : pb_I (pb_pI g 235 (sp_gf D Y.1 j).1 (nI j)) 217 41 = nI (sp_gf D Y.1 j).1 := by rw [ma_Ik, if_neg (by decide)]; exact hg.1
      refine ⟨(nI (j + 1), pb_pI (pb_pI g 235 (sp_gf D Y.1 j).1 (nI j)) 217 41 (nI ((sp_gf D Y.1 j).1 + 1))), ?_, rfl, ma_fr_pI (ma_fr_pI hf (.inl (by decide)) _) (.inr (by decide)) _, ?_, fun i hi => ?_⟩
      · simp only [f_251_17s, if_neg e1, if_pos (mi_217 H2), e2, Option.bind_some, if_true, i10, if_false, mr_217_40 H2, hg.1, if_pos (mx_235 H2 (show (sp_gf D Y.1 j).1 < 729 by omega)), nI_clamp (show (sp_gf D Y.1 j).1 < 2 ^ 31 by omega), ec, nI_1]
      · simp only [if_true]
        rw [ma_Ik, if_pos rfl, if_pos rfl]
      · simp only [if_true] at hi ⊢
        rw [ma_Ik, if_neg (by decide), ma_Ik, if_pos rfl]
        by_cases e : i = (sp_gf D Y.1 j).1
        · rw [if_pos e, if_pos e]
        · rw [if_neg e, if_neg e]; exact hg.2 i (by omega)
  · rintro ⟨i, g⟩ ⟨hi, hf, hg⟩
    dsimp only at hi hf hg
    subst hi
    exact ⟨g, rfl, hf, hg⟩
end
