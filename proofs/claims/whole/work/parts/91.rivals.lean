/-! rivals: the first best turn; the model's ends -/
/-- the best of those that can be (0: none), and which + 1 -/
abbrev ri_b (mo : Bool) (s v : Nat) : Prop := v ≠ 0 ∧ (s = 0 ∨ (mo = true ∧ s < v) ∨ (mo = false ∧ v < s))
def ri_g (e : Nat → Nat) (mo : Bool) (j : Nat) : Nat × Nat := ma_fo (fun v s => if ri_b mo s.1 (e v) then (e v, v + 1) else s) j (0, 0)
theorem ri_g_s (e : Nat → Nat) (mo : Bool) (j : Nat) : ri_g e mo (j + 1) = if ri_b mo (ri_g e mo j).1 (e j) then (e j, j + 1) else ri_g e mo j := rfl
theorem ri_b_t {s v : Nat} : ri_b true s v ↔ v ≠ 0 ∧ (s = 0 ∨ s < v) := by simp
theorem ri_b_f {s v : Nat} : ri_b false s v ↔ v ≠ 0 ∧ (s = 0 ∨ v < s) := by simp
theorem ri_g_le {e : Nat → Nat} {mo : Bool} (h : ∀ v, e v ≤ 3) : ∀ j, (ri_g e mo j).1 ≤ 3 ∧ (ri_g e mo j).2 ≤ j
  | 0 => ⟨Nat.zero_le 3, Nat.le_refl _⟩
  | j + 1 => by
    have ih := ri_g_le (mo := mo) h j
    have := h j
    rw [ri_g_s]
    by_cases c : ri_b mo (ri_g e mo j).1 (e j)
    · rw [if_pos c]; exact ⟨this, Nat.le_refl _⟩
    · rw [if_neg c]; exact ⟨ih.1, by omega⟩
theorem ri_g_k {e : Nat → Nat} (h : ∀ v, e v ≤ 3) {j : Nat} (q : (ri_g e true j).1 = 3) : ∀ d, ri_g e true (j + d) = ri_g e true j
  | 0 => rfl
  | d + 1 => by
    have ih := ri_g_k h q d
    have := h (j + d)
    rw [← Nat.add_assoc, ri_g_s, ih, if_neg (fun z => by rw [ri_b_t] at z; omega)]
def ri_e (al : Nat → Bool) (x : Nat → Nat) (v : Nat) : Nat := if al v then x v + 1 else 0
theorem ri_gA {al : Nat → Bool} {x : Nat → Nat} : ∀ j, ((ri_g (ri_e al x) true j).1 = 0 ∧ ri_A al x j = 0 ∧ ∀ v, v < j → al v = false) ∨ (ri_g (ri_e al x) true j).1 = ri_A al x j + 1
  | 0 => .inl ⟨rfl, rfl, fun v hv => absurd hv (Nat.not_lt_zero v)⟩
  | j + 1 => by
    have ih := ri_gA (al := al) (x := x) j
    rw [ri_g_s, ri_A_s]
    cases c : al j with
    | false =>
      have e0 : ri_e al x j = 0 := by unfold ri_e; rw [c]; rfl
      rw [e0, if_neg (fun q => q.1 rfl), if_neg (show ¬ (false = true) by decide)]
      rcases ih with ⟨a, b, d⟩ | a
      · refine .inl ⟨a, b, fun v hv => ?_⟩
        by_cases q : v = j
        · rw [q]; exact c
        · exact d v (by omega)
      · exact .inr a
    | true =>
      have e1 : ri_e al x j = x j + 1 := by unfold ri_e; rw [c]; rfl
      rw [e1, if_pos (show true = true from rfl)]
      right
      rcases ih with ⟨a, b, d⟩ | a
      · rw [if_pos ⟨by omega, .inl a⟩, b]
        show x j + 1 = max 0 (x j) + 1
        omega
      · by_cases q : (ri_g (ri_e al x) true j).1 < x j + 1
        · rw [if_pos (ri_b_t.mpr ⟨by omega, .inr q⟩)]
          show x j + 1 = _
          omega
        · rw [if_neg (fun z => by rw [ri_b_t] at z; omega)]
          omega
theorem ri_gB {al : Nat → Bool} {x : Nat → Nat} (hx : ∀ v, x v ≤ 2) : ∀ j, ((ri_g (ri_e al x) false j).1 = 0 ∧ ri_B al x j = 2 ∧ ∀ v, v < j → al v = false) ∨ (ri_g (ri_e al x) false j).1 = ri_B al x j + 1
  | 0 => .inl ⟨rfl, rfl, fun v hv => absurd hv (Nat.not_lt_zero v)⟩
  | j + 1 => by
    have ih := ri_gB (al := al) hx j
    have xj := hx j
    rw [ri_g_s, ri_B_s]
    cases c : al j with
    | false =>
      have e0 : ri_e al x j = 0 := by unfold ri_e; rw [c]; rfl
      rw [e0, if_neg (fun q => q.1 rfl), if_neg (show ¬ (false = true) by decide)]
      rcases ih with ⟨a, b, d⟩ | a
      · refine .inl ⟨a, b, fun v hv => ?_⟩
        by_cases q : v = j
        · rw [q]; exact c
        · exact d v (by omega)
      · exact .inr a
    | true =>
      have e1 : ri_e al x j = x j + 1 := by unfold ri_e; rw [c]; rfl
      rw [e1, if_pos (show true = true from rfl)]
      right
      rcases ih with ⟨a, b, d⟩ | a
      · rw [if_pos ⟨by omega, .inl a⟩, b]
        show x j + 1 = min 2 (x j) + 1
        omega
      · by_cases q : x j + 1 < (ri_g (ri_e al x) false j).1
        · rw [if_pos (ri_b_f.mpr ⟨by omega, .inr q⟩)]
          show x j + 1 = _
          omega
        · rw [if_neg (fun z => by rw [ri_b_f] at z; omega)]
          omega
theorem ri_a6 (x : Nat) : ri_a x 6 = true := rfl
/-- what is shown first + 1 -/
def ri_w1 (K : ma_K) (a b n : Nat) : Nat := if n = 0 then 0 else (ri_g (ri_e (ri_a (K 2 a)) (fun v => ri_v K a b (n - 1) 1 (ri_o (K 2 a) v) (K 2 b))) true 7).2
def ri_kI (e : Nat) : Int32 := nI e - 2
theorem ri_kI_d : ∀ e, e ≤ 3 → (ri_kI e < -1 ↔ e = 0) ∧ (1 ≤ ri_kI e ↔ e = 3) ∧ (e ≠ 0 → ri_kI e = mI (e - 1)) ∧ ∀ r, r ≤ 2 → (mI r ≤ ri_kI e ↔ r + 1 ≤ e) := by decide +kernel
section
variable {h : pb_HP} {N : Nat} {K : ma_K} {a b n : Nat}
theorem c_115 {c : Nat} (H : ma_H h) (V : ma_V h c K) (O : ma_OK K) (hc : c = 3 ∨ c = 10) (ha : a < K 0 0) (hb : b < K 0 0) (ab : a ≠ b) (hn : n ≤ 4) (f : Int32) (hN : 3000 < N) : ∃ g, f_115 N h 184 c (nI a) (nI b) (nI n) f = some (if f = 0 then mI (ri_v K a b n 0 (K 2 a) (K 2 b)) else mI (ri_w1 K a b n), g) ∧ ma_q h g := by
  have h6 := O.1
  have hx := (O.2.2.1 a).2.1
  have hy := (O.2.2.1 b).2.1
  obtain ⟨g0, a1, a2, a3⟩ := c_2 H V O ma_ct185 (by omega)
  have H0 := ma_H_fr H a2
  have q0 : ma_q h g0 := ma_q_fr a2 (by decide)
  obtain ⟨g1, e1⟩ : ∃ g, g = pb_pI (pb_pI (pb_pI g0 184 2 (nI a)) 184 3 (nI b)) 184 4 (nI n) := ⟨_, rfl⟩
  have q1 : ma_q g0 g1 := by rw [e1]; exact ma_q_pI (ma_q_pI (ma_q_pI (ma_q_r _) (by decide) _ _) (by decide) _ _) (by decide) _ _
  have V1 : ma_V g1 185 K := ma_V_e a3 (fun o p q => by rw [e1, ma_I_pI, if_neg (by omega), ma_I_pI, if_neg (by omega), ma_I_pI, if_neg (by omega)])
  have S1 : ri_S g1 K a b n (K 2 a) (K 2 b) := ⟨by rw [e1]; exact H0, by rw [ri_k_0]; exact V1, by rw [e1, ma_Ik, if_pos rfl, if_neg (by decide), ma_Ik, if_pos rfl, if_neg (by decide), ma_Ik, if_pos rfl, if_pos rfl], by rw [e1, ma_Ik, if_pos rfl, if_neg (by decide), ma_Ik, if_pos rfl, if_pos rfl], by rw [e1, ma_Ik, if_pos rfl, if_pos rfl]⟩
  unfold f_115
  rw [if_pos (mi_184 H), mr_184_0 H, Option.bind_some, if_pos (mi_185 H), a1, Option.bind_some, if_pos (mi_184 H0), ← e1]
  by_cases cf : f = 0
  · obtain ⟨r, g, b1, ⟨b2, b3⟩, b4, b5⟩ := c_117 (N := N) O ha hb ab hn hN n 0 (K 2 a) (K 2 b) g1 6 0 2 (by omega) (by omega) (by decide) (by decide) hx hy S1
    have b1 : f_rec117 N 6 g1 184 0 (-1) 1 = some (mI r, g) := b1
    have rv := ri_v_le K a b n 0 (K 2 a) (K 2 b)
    have er : r = ri_v K a b n 0 (K 2 a) (K 2 b) := by unfold ri_c at b3; omega
    rw [if_neg (not_not_intro cf), b1, Option.bind_some, if_pos cf, er]
    exact ⟨g, rfl, ma_q_t q0 (ma_q_t q1 (ma_tq b4))⟩
  · rw [if_pos cf, if_neg cf]
    unfold ri_w1
    by_cases n0 : n = 0
    · subst n0
      have u : pb_wl (f_115_47s N 184 (nI a) (nI 0)) N (-2, -1, 0, g1) = some (-1, g1) := by
        obtain ⟨M, rfl⟩ : ∃ M, N = M + 1 := ⟨N - 1, by omega⟩
        unfold pb_wl f_115_47s
        dsimp only
        rw [if_neg (by decide), if_pos (by decide)]
      rw [u, if_pos rfl]
      exact ⟨g1, rfl, ma_q_t q0 q1⟩
    · rw [if_neg n0]
      obtain ⟨X, eX⟩ : ∃ X, X = fun v => ri_v K a b (n - 1) 1 (ri_o (K 2 a) v) (K 2 b) := ⟨_, rfl⟩
      rw [← eX]
      have X2 : ∀ v, X v ≤ 2 := fun v => by rw [eX]; exact ri_v_le K a b (n - 1) 1 _ _
      obtain ⟨E, eE⟩ : ∃ E, E = ri_e (ri_a (K 2 a)) X := ⟨_, rfl⟩
      rw [← eE]
      have E3 : ∀ v, E v ≤ 3 := fun v => by
        rw [eE]; unfold ri_e
        have := X2 v
        split <;> omega
      have nz : ¬ nI n ≤ 0 := fun q => n0 ((lC0 (show n < 2 ^ 31 by omega)).mp q)
      have lp : ∃ x, pb_wl (f_115_47s N 184 (nI a) (nI n)) N (-2, -1, 0, g1) = some x ∧ (x.1 = mI (ri_g E true 7).2 ∧ ma_fr ma_tL [] g1 x.2) := by
        refine ma_lh (fun j s => ∃ g, s = (ri_kI (ri_g E true j).1, mI (ri_g E true j).2, nI j, g) ∧ ma_fr ma_tL [] g1 g ∧ ma_V g 185 (ri_k K a b (K 2 a) (K 2 b))) _ 7 0 N _ (by omega) (by omega) ⟨g1, rfl, ma_fr_r _ _ _, S1.2.1⟩ ?_ ?_
        · rintro j s _ hj ⟨g, rfl, fg, Vg⟩
          have Sg : ri_S g K a b n (K 2 a) (K 2 b) := ri_S_fr S1 fg Vg
          have Hg := Sg.1
          have n6 : ¬ (6 : Int32) < nI j := fun q => by have := (lB6 (show j < 2 ^ 31 by omega)).mp q; omega
          have gl := ri_g_le (mo := true) E3 j
          have kd := ri_kI_d (ri_g E true j).1 gl.1
          by_cases c3 : (ri_g E true j).1 = 3
          · right
            refine ⟨(mI (ri_g E true j).2, g), ?_, ?_, fg⟩
            · simp only [f_115_47s, if_neg n6, if_neg nz, if_pos (kd.2.1.mpr c3)]
            · have k := ri_g_k E3 c3 (7 - j)
              rw [show j + (7 - j) = 7 by omega] at k
              rw [k]
          · have z := c_116 (x := K 2 a) Hg Vg (show a < 6 by omega) (ri_k_xa ab _ _) hx hj
            have nc : ¬ (1 : Int32) ≤ ri_kI (ri_g E true j).1 := fun q => c3 (kd.2.1.mp q)
            left
            by_cases al : ri_a (K 2 a) j = true
            · have Ej : E j = X j + 1 := by rw [eE]; unfold ri_e; rw [if_pos al]
              have lo : (if ri_kI (ri_g E true j).1 < -1 then (-1 : Int32) else ri_kI (ri_g E true j).1) = mI ((ri_g E true j).1 - 1) := by
                by_cases e0 : (ri_g E true j).1 = 0
                · rw [if_pos (kd.1.mpr e0), e0]; rfl
                · rw [if_neg (fun q => e0 (kd.1.mp q))]; exact kd.2.2.1 e0
              obtain ⟨r, g2, b1, ⟨r1, rfl, r3, r4⟩, b3, b4⟩ := c_118 (F := f_rec117 N 6) (N := N) (P := fun r => ∃ r', r = mI r' ∧ r' ≤ 2 ∧ ri_c ((ri_g E true j).1 - 1) 2 r' = ri_c ((ri_g E true j).1 - 1) 2 (X j)) (lo := mI ((ri_g E true j).1 - 1)) (hi := mI 2) (t := 0) O ha hb ab hx hy (by decide) hj Sg (fun h2 S2 => by
                rw [if_pos (by decide), if_pos (by decide)] at S2
                obtain ⟨r', g2, b1, b2, b3, b4⟩ := c_117 (N := N) O ha hb ab hn hN (n - 1) 1 (ri_o (K 2 a) j) (K 2 b) h2 6 ((ri_g E true j).1 - 1) 2 (by omega) (by omega) (by omega) (by omega) (ri_o_lt hx hj) hy S2
                refine ⟨mI r', g2, b1, ⟨r', rfl, b2.1, ?_⟩, b3, ?_⟩
                · rw [eX]; exact b2.2
                · rw [if_pos (by decide), if_pos (by decide)]; exact b4)
              have b1 : f_118 (f_rec117 N 6) N g 184 0 (nI j) (mI ((ri_g E true j).1 - 1)) 1 = some (mI r1, g2) := b1
              have xj := X2 j
              have gs := ri_g_s E true j
              by_cases up : r1 + 1 ≤ (ri_g E true j).1
              · rw [if_neg (fun z => by
                  rw [ri_b_t, Ej] at z
                  unfold ri_c at r4
                  omega)] at gs
                refine ⟨(ri_kI (ri_g E true j).1, mI (ri_g E true j).2, nI (j + 1), g2), ?_, g2, by rw [gs], ma_fr_t fg b3, b4⟩
                simp only [f_115_47s, if_neg n6, if_neg nz, if_neg nc, if_pos (mi_184 Hg), z, al, if_true, Option.bind_some, i10, if_false, lo, b1, if_pos ((kd.2.2.2 r1 r3).mpr up), nI_1]
              · have e1 : r1 = X j := by unfold ri_c at r4; omega
                rw [if_pos (ri_b_t.mpr (by rw [Ej]; omega))] at gs
                refine ⟨(mI r1, nI j, nI (j + 1), g2), ?_, g2, ?_, ma_fr_t fg b3, b4⟩
                · simp only [f_115_47s, if_neg n6, if_neg nz, if_neg nc, if_pos (mi_184 Hg), z, al, if_true, Option.bind_some, i10, if_false, lo, b1, if_neg (fun q => up ((kd.2.2.2 r1 r3).mp q)), nI_1]
                · rw [gs]
                  dsimp only
                  rw [Ej, ← e1, mI_s, (ri_kI_d (r1 + 1) (by omega)).2.2.1 (by omega)]
                  rfl
            · have Ej : E j = 0 := by rw [eE]; unfold ri_e; rw [if_neg al]
              have gs := ri_g_s E true j
              rw [if_neg (fun z => z.1 Ej)] at gs
              have z : f_116 g 184 (nI a) (nI j) = some 0 := by rw [z, if_neg al]
              refine ⟨(ri_kI (ri_g E true j).1, mI (ri_g E true j).2, nI (j + 1), g), ?_, g, by rw [gs], fg, Vg⟩
              simp only [f_115_47s, if_neg n6, if_neg nz, if_neg nc, if_pos (mi_184 Hg), z, Option.bind_some, if_true, nI_1]
        · rintro s ⟨g, rfl, fg, Vg⟩
          refine ⟨(mI (ri_g E true 7).2, g), ?_, rfl, fg⟩
          simp only [f_115_47s, if_pos (show (6 : Int32) < nI 7 by decide)]
      obtain ⟨⟨x, g⟩, x1, x2, x3⟩ := lp
      dsimp only at x2 x3
      subst x2
      rw [x1]
      exact ⟨g, rfl, ma_q_t q0 (ma_q_t q1 (ma_tq x3))⟩
end
