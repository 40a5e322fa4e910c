/-! Queries by a log: fits. -/
theorem sp_sm_1 {n t : Nat} (ht : t < 6) : sp_sm n (2 ^ t) = sp_dg n t := by
  have e6 : ∀ g : Nat → Nat → Nat, ma_fo g 6 0 = g 5 (g 4 (g 3 (g 2 (g 1 (g 0 0))))) := fun g => rfl
  unfold sp_sm
  simp only [e6, Nat.testBit_two_pow]
  have : t = 0 ∨ t = 1 ∨ t = 2 ∨ t = 3 ∨ t = 4 ∨ t = 5 := by omega
  rcases this with e | e | e | e | e | e <;> rw [e] <;> simp
theorem ma_p2l {t : Nat} (ht : t < 6) : 2 ^ t < 64 := Nat.pow_lt_pow_right (by decide) ht
section
variable {h : pb_HP} {N : Nat} {R : Nat × (Nat → Nat)}
/-- it is one in all that fit -/
def sp_su (R : Nat × (Nat → Nat)) (t : Nat) : Prop := ∀ k, k < R.1 → sp_dg (R.2 k) t = sp_dg (R.2 0) t
theorem c_64 (H : ma_H h) (mk : ∀ n, n < 729 → pb_I h 214 n = nI (sp_mk n)) (hR : ma_RR R) (ga : ma_ga h R) {t : Nat} (ht : t < 6) (hN : 3000 < N) : (sp_su R t → f_64 N h 212 (nI t) = some (if R.1 = 0 then -1 else nI (sp_dg (R.2 0) t))) ∧ (¬ sp_su R t → f_64 N h 212 (nI t) = some (-1)) := by
  have h7 := hR.1
  have hl : ∃ e, pb_wl (f_64_4s N h 212 (nI t)) N (-1, 0) = some e ∧ ((sp_su R t ∧ e = .inr (if R.1 = 0 then -1 else nI (sp_dg (R.2 0) t))) ∨ (¬ sp_su R t ∧ e = .inl (-1))) := by
    refine ma_lh (fun j s => s.2 = nI j ∧ s.1 = (if j = 0 then -1 else nI (sp_dg (R.2 0) t)) ∧ ∀ k, k < j → sp_dg (R.2 k) t = sp_dg (R.2 0) t) _ R.1 0 N _ (by omega) (by omega) ⟨rfl, rfl, fun k hk => absurd hk (Nat.not_lt_zero k)⟩ ?_ ?_
    · rintro j ⟨s, i⟩ _ hj ⟨hi, hs, hz⟩
      dsimp only at hi hs
      subst hi
      have e62 : f_62 h 212 (nI (R.2 j)) (nI (2 ^ t)) = some (nI (sp_dg (R.2 j) t)) := by rw [c_62 H mk (hR.2 j) (ma_p2l ht), sp_sm_1 ht]
      have b1 := sp_dg_le (R.2 j) t
      have b2 := sp_dg_le (R.2 0) t
      have red : f_64_4s N h 212 (nI t) (s, nI j) = if s = -1 then some (.inl (nI (sp_dg (R.2 j) t), nI (j + 1))) else if nI (sp_dg (R.2 j) t) = s then some (.inl (nI (sp_dg (R.2 j) t), nI (j + 1))) else some (.inr (.inl (-1))) := by
        simp only [f_64_4s, if_pos (mi_212 H), ga.1, if_neg (nI_ge hj (show R.1 < 2 ^ 31 by omega)), mr_212_1 H, Option.bind_some, if_pos (mx_213 H (show j < 729 by omega)), nI_clamp (show j < 2 ^ 31 by omega), ga.2 j hj, ma_shl (show t < 31 by omega), e62, nI_1]
      by_cases z : j = 0
      · subst z
        left
        refine ⟨(nI (sp_dg (R.2 0) t), nI 1), by rw [red, hs]; rfl, rfl, rfl, fun k hk => by rw [show k = 0 by omega]⟩
      · rw [if_neg z] at hs
        subst hs
        have n1 : ¬ nI (sp_dg (R.2 0) t) = -1 := fun y => (mF _ (by omega)).mp y
        by_cases q : sp_dg (R.2 j) t = sp_dg (R.2 0) t
        · left
          refine ⟨(nI (sp_dg (R.2 0) t), nI (j + 1)), by rw [red, if_neg n1, q, if_pos rfl], rfl, by rw [if_neg (by omega)], fun k hk => ?_⟩
          by_cases e : k = j
          · rw [e]; exact q
          · exact hz k (by omega)
        · right
          refine ⟨.inl (-1), by rw [red, if_neg n1, if_neg (fun y => q ((nI_eq (by omega) (by omega)).mp y))], .inr ⟨fun y => q (y j hj), rfl⟩⟩
    · rintro ⟨s, i⟩ ⟨hi, hs, hz⟩
      dsimp only at hi hs
      subst hi; subst hs
      refine ⟨.inr (if R.1 = 0 then -1 else nI (sp_dg (R.2 0) t)), ?_, .inl ⟨hz, rfl⟩⟩
      simp only [f_64_4s, if_pos (mi_212 H), ga.1, if_pos (nI_le (Nat.le_refl _) (show R.1 < 2 ^ 31 by omega))]
  obtain ⟨e, a1, a2⟩ := hl
  unfold f_64
  rw [a1]
  rcases a2 with ⟨s, rfl⟩ | ⟨s, rfl⟩
  · exact ⟨fun _ => rfl, fun z => absurd s z⟩
  · exact ⟨fun z => absurd z s, fun _ => rfl⟩
theorem m_254 (H : ma_H h) (hR : ma_RR R) (gb : ma_gb h R) {t : Nat} (ht : t < 6) (hN : 3000 < N) : (sp_su R t → f_254 N h 217 (nI t) = some (if R.1 = 0 then -1 else nI (sp_dg (R.2 0) t))) ∧ (¬ sp_su R t → f_254 N h 217 (nI t) = some (-1)) := by
  have h7 := hR.1
  have fin : ∀ x, f_254_24s N h 217 (nI t) (x, nI R.1) = some (.inr x) := fun x => by
    simp only [f_254_24s, if_pos (mi_217 H), gb.1, if_pos (nI_le (Nat.le_refl _) (show R.1 < 2 ^ 31 by omega))]
  by_cases q0 : R.1 = 0
  · have su : sp_su R t := fun k hk => absurd hk (by omega)
    refine ⟨fun _ => ?_, fun z => absurd su z⟩
    have e41 : (pb_I h 217 41 = 0) = True := eq_true (by rw [gb.1, q0]; rfl)
    have hl : pb_wl (f_254_24s N h 217 (nI t)) N (-1, 0) = some (-1) := by
      have f0 := fin (-1)
      rw [q0] at f0
      obtain ⟨n, rfl⟩ : ∃ n, N = n + 1 := ⟨N - 1, by omega⟩
      unfold pb_wl
      have f0 : f_254_24s (n + 1) h 217 (nI t) (-1, 0) = _ := f0
      rw [f0]
    simp only [f_254, if_pos (mi_217 H), e41, not_true_eq_false, if_false, hl, Option.bind_some, if_pos q0]
  · have e41 : (pb_I h 217 41 = 0) = False := eq_false (by rw [gb.1]; exact nI_ne0 (by omega) (by omega))
    have x0 : pb_ar h 235 12 0 := mx_235 H (j := 0) (by decide)
    have z0 : (0 : Int32).toNatClampNeg = 0 := by decide
    have b2 := sp_dg_le (R.2 0) t
    have hl : ∃ e, pb_wl (f_254_24s N h 217 (nI t)) N (nI (sp_dg (R.2 0) t), 0) = some e ∧ ((sp_su R t ∧ e = nI (sp_dg (R.2 0) t)) ∨ (¬ sp_su R t ∧ e = -1)) := by
      refine ma_lh (fun j s => s.2 = nI j ∧ (((∀ k, k < j → sp_dg (R.2 k) t = sp_dg (R.2 0) t) ∧ s.1 = nI (sp_dg (R.2 0) t)) ∨ (¬ sp_su R t ∧ s.1 = -1))) _ R.1 0 N _ (by omega) (by omega) ⟨rfl, .inl ⟨fun k hk => absurd hk (Nat.not_lt_zero k), rfl⟩⟩ ?_ ?_
      · rintro j ⟨s, i⟩ _ hj ⟨hi, hs⟩
        dsimp only at hi hs
        subst hi
        left
        have b1 := sp_dg_le (R.2 j) t
        have red : f_254_24s N h 217 (nI t) (s, nI j) = if ¬ nI (sp_dg (R.2 j) t) = s then some (.inl (-1, nI (j + 1))) else some (.inl (s, nI (j + 1))) := by
          simp only [f_254_24s, if_pos (mi_217 H), gb.1, if_neg (nI_ge hj (show R.1 < 2 ^ 31 by omega)), mr_217_40 H, Option.bind_some, if_pos (mx_235 H (show j < 729 by omega)), nI_clamp (show j < 2 ^ 31 by omega), gb.2 j hj, m_247 (hR.2 j) ht hN, nI_1]
        rcases hs with ⟨hz, rfl⟩ | ⟨hz, rfl⟩
        · by_cases q : sp_dg (R.2 j) t = sp_dg (R.2 0) t
          · refine ⟨(nI (sp_dg (R.2 0) t), nI (j + 1)), by rw [red, if_neg (fun z => z (by rw [q]))], rfl, .inl ⟨fun k hk => ?_, rfl⟩⟩
            by_cases e : k = j
            · rw [e]; exact q
            · exact hz k (by omega)
          · exact ⟨(-1, nI (j + 1)), by rw [red, if_pos (fun y => q ((nI_eq (by omega) (by omega)).mp y))], rfl, .inr ⟨fun y => q (y j hj), rfl⟩⟩
        · exact ⟨(-1, nI (j + 1)), by rw [red, if_pos (fun y => (mF _ (by omega)).mp y)], rfl, .inr ⟨hz, rfl⟩⟩
      · rintro ⟨s, i⟩ ⟨hi, hs⟩
        dsimp only at hi hs
        subst hi
        exact ⟨s, fin s, hs⟩
    obtain ⟨e, a1, a2⟩ := hl
    have e47 := m_247 (N := N) (hR.2 0) ht hN
    have res : f_254 N h 217 (nI t) = some e := by
      simp only [f_254, if_pos (mi_217 H), e41, not_false_eq_true, if_true, mr_217_40 H, Option.bind_some, if_pos x0, z0, gb.2 0 (by omega), e47, a1]
    rw [res, if_neg q0]
    rcases a2 with ⟨s, rfl⟩ | ⟨s, rfl⟩
    · exact ⟨fun _ => rfl, fun z => absurd s z⟩
    · exact ⟨fun z => absurd z s, fun _ => rfl⟩
/-! ask -/
def sp_pj (R : Nat × (Nat → Nat)) (j a b : Nat) : Nat := ma_fo (fun k n => if sp_dg (R.2 k) b < sp_dg (R.2 k) a then n + 1 else n) j 0
theorem sp_pj_s (R : Nat × (Nat → Nat)) (j a b : Nat) : sp_pj R (j + 1) a b = if sp_dg (R.2 j) b < sp_dg (R.2 j) a then sp_pj R j a b + 1 else sp_pj R j a b := ma_fo_s _ _ _
theorem sp_pf_pj (R : Nat × (Nat → Nat)) {a b : Nat} (ha : a < 6) (hb : b < 6) : sp_pf R (2 ^ a) (2 ^ b) = sp_pj R R.1 a b := ma_fo_cong _ (fun k n _ => by rw [sp_sm_1 ha, sp_sm_1 hb])
theorem sp_pj_le (R : Nat × (Nat → Nat)) (j a b : Nat) : sp_pj R j a b ≤ j := ma_fo_inv (g := fun k n => if sp_dg (R.2 k) b < sp_dg (R.2 k) a then n + 1 else n) (P := fun j a => a ≤ j) (a0 := 0) (Nat.le_refl _) j (fun j a hj ha => by split <;> omega)
def sp_gr (R : Nat × (Nat → Nat)) (p : Nat) : Nat := max (sp_pj R R.1 (p / 6) (p % 6)) (R.1 - sp_pj R R.1 (p / 6) (p % 6))
theorem sp_gr_le (R : Nat × (Nat → Nat)) (p : Nat) : sp_gr R p ≤ R.1 := by
  have := sp_pj_le R R.1 (p / 6) (p % 6)
  unfold sp_gr; omega
def sp_akg (R : Nat × (Nat → Nat)) (p : Nat) (s : Nat × Nat) : Nat × Nat := if p / 6 ≠ p % 6 ∧ sp_gr R p < s.2 then (10 * (p / 6) + p % 6 + 1, sp_gr R p) else s
theorem sp_ak_eq {R : Nat × (Nat → Nat)} (h : R.1 ≤ 729) (n : Nat) : (ma_fo (sp_akg R) n (0, R.1 + 1)).1 = (ma_fo (sp_akg R) n (0, 1000000)).1 := by
  have : ∀ n, (ma_fo (sp_akg R) n (0, R.1 + 1) = (0, R.1 + 1) ∧ ma_fo (sp_akg R) n (0, 1000000) = (0, 1000000)) ∨ ma_fo (sp_akg R) n (0, R.1 + 1) = ma_fo (sp_akg R) n (0, 1000000) := fun n => by
    induction n with
    | zero => exact .inl ⟨rfl, rfl⟩
    | succ n ih =>
      rw [ma_fo_s, ma_fo_s]
      rcases ih with ⟨e1, e2⟩ | e
      · rw [e1, e2]
        have := sp_gr_le R n
        unfold sp_akg
        by_cases q : n / 6 ≠ n % 6
        · right
          rw [if_pos ⟨q, by dsimp only; omega⟩, if_pos ⟨q, by dsimp only; omega⟩]
        · left
          rw [if_neg (fun z => q z.1), if_neg (fun z => q z.1)]
          exact ⟨rfl, rfl⟩
      · right; rw [e]
  rcases this n with ⟨e1, e2⟩ | e
  · rw [e1, e2]
  · rw [e]
def ma_mo (h : pb_HP) (W : Nat → Nat → Nat) : Prop := ∀ a b, a < 6 → b < 6 → a ≠ b → pb_I h 216 (6 * a + b) = nI (W a b)
def sp_mw (R : Nat × (Nat → Nat)) (i j k a b : Nat) : Nat := if max a b < j ∨ (max a b = j ∧ min a b < k) then sp_pj R (i + 1) a b else sp_pj R i a b
theorem c_66 (H : ma_H h) (mk : ∀ n, n < 729 → pb_I h 214 n = nI (sp_mk n)) (hR : ma_RR R) (ga : ma_ga h R) (hN : 3000 < N) : ∃ g, f_66 N h 212 = some g ∧ ma_fr [215, 216] [] h g ∧ ma_mo g (sp_pj R R.1) := by
  have h7 := hR.1
  obtain ⟨g0, z1, z2, z3⟩ := c_306 (h := h) (N := N) (o := 216) (n := 36) H.1 (by decide) sh_216 (by decide) 0 hN
  have keep : ∀ g, ma_fr [215, 216] [] h g → ma_H g ∧ (∀ n, n < 729 → pb_I g 214 n = nI (sp_mk n)) ∧ ma_ga g R := fun g f => by
    refine ⟨ma_H_fr H f, fun n hn => by rw [ma_fr_o f (by decide) (by decide)]; exact mk n hn, ?_, fun i hi => ?_⟩
    · rw [ma_fr_o f (by decide) (by decide)]; exact ga.1
    · rw [ma_fr_o f (by decide) (by decide)]; exact ga.2 i hi
  have hl : ∃ e, pb_wl (f_66_10s N 212) N (0, g0) = some e ∧ (ma_fr [215, 216] [] h e ∧ ma_mo e (sp_pj R R.1)) := by
    refine ma_lh (fun i s => s.1 = nI i ∧ ma_fr [215, 216] [] h s.2 ∧ ma_mo s.2 (sp_pj R i)) _ R.1 0 N _ (by omega) (by omega) ⟨rfl, ma_fr_w z2 (by decide) (by decide), fun a b ha hb _ => z3 (6 * a + b) (by omega)⟩ ?_ ?_
    · rintro i ⟨x, g⟩ _ hi ⟨hx, hf, hm⟩
      dsimp only at hx hf hm
      subst hx
      left
      obtain ⟨H2, mk2, ga2⟩ := keep g hf
      have l1 : ∃ e, pb_wl (f_66_20s N 212 (nI i)) N (0, g) = some e ∧ (ma_fr [215] [] g e ∧ ∀ t, t < 6 → pb_I e 215 t = nI (sp_dg (R.2 i) t)) := by
        refine ma_lh (fun t s => s.1 = nI t ∧ ma_fr [215] [] g s.2 ∧ ∀ u, u < t → pb_I s.2 215 u = nI (sp_dg (R.2 i) u)) _ 6 0 N _ (by omega) (by omega) ⟨rfl, ma_fr_r _ _ _, fun u hu => absurd hu (Nat.not_lt_zero u)⟩ ?_ ?_
        · rintro t ⟨x, g2⟩ _ ht ⟨hx, hf2, hv⟩
          dsimp only at hx hf2 hv
          subst hx
          left
          obtain ⟨H3, mk3, ga3⟩ := keep g2 (ma_fr_t hf (ma_fr_w hf2 (by decide) (by decide)))
          have e1 : ¬ (6 : Int32) ≤ nI t := (not_congr (lA6 (by omega))).mpr (by omega)
          have e62 : f_62 g2 212 (nI (R.2 i)) (nI (2 ^ t)) = some (nI (sp_dg (R.2 i) t)) := by rw [c_62 H3 mk3 (hR.2 i) (ma_p2l ht), sp_sm_1 ht]
          refine ⟨(nI (t + 1), pb_pI g2 215 t (nI (sp_dg (R.2 i) t))), ?_, rfl, ma_fr_pI hf2 (.inl (by decide)) _, fun u hu => ?_⟩
          · simp only [f_66_20s, if_neg e1, if_pos (mi_212 H3), mr_212_3 H3, mr_212_1 H3, Option.bind_some, if_pos (mx_213 H3 (show i < 729 by omega)), nI_clamp (show i < 2 ^ 31 by omega), ga3.2 i hi, ma_shl (show t < 31 by omega), e62, if_pos (mx_215 H3 ht), nI_clamp (show t < 2 ^ 31 by omega), nI_1]
          · show pb_I (pb_pI g2 215 t _) 215 u = _
            rw [ma_Ik, if_pos rfl]
            by_cases e : u = t
            · rw [if_pos e, e]
            · rw [if_neg e]; exact hv u (by omega)
        · rintro ⟨x, g2⟩ ⟨hx, hf2, hv⟩
          dsimp only at hx hf2 hv
          subst hx
          exact ⟨g2, rfl, hf2, hv⟩
      obtain ⟨g1, a1, a2, a3⟩ := l1
      have f1 : ma_fr [215, 216] [] h g1 := ma_fr_t hf (ma_fr_w a2 (by decide) (by decide))
      have m1 : ma_mo g1 (sp_mw R i 1 0) := fun a b ha hb hab => by
        rw [ma_fr_o a2 (by decide) (by decide), hm a b ha hb hab]
        unfold sp_mw
        rw [if_neg (by omega)]
      have l2 : ∃ e, pb_wl (f_66_53s N 212 (nI i)) N (1, g1) = some e ∧ (ma_fr [216] [] g1 e ∧ ma_mo e (sp_mw R i 6 0)) := by
        refine ma_lh (fun j s => s.1 = nI j ∧ ma_fr [216] [] g1 s.2 ∧ ma_mo s.2 (sp_mw R i j 0)) _ 6 1 N _ (by omega) (by omega) ⟨rfl, ma_fr_r _ _ _, m1⟩ ?_ ?_
        · rintro j ⟨x, g2⟩ hj1 hj ⟨hx, hf2, hm2⟩
          dsimp only at hx hf2 hm2
          subst hx
          left
          have e1 : ¬ (6 : Int32) ≤ nI j := (not_congr (lA6 (by omega))).mpr (by omega)
          have l3 : ∃ e, pb_wl (f_66_61s N 212 (nI i) (nI j)) N (0, g2) = some e ∧ (ma_fr [216] [] g1 e ∧ ma_mo e (sp_mw R i j j)) := by
            refine ma_lh (fun k s => s.1 = nI k ∧ ma_fr [216] [] g1 s.2 ∧ ma_mo s.2 (sp_mw R i j k)) _ j 0 N _ (by omega) (by omega) ⟨rfl, hf2, hm2⟩ ?_ ?_
            · rintro k ⟨x, g3⟩ _ hk ⟨hx, hf3, hm3⟩
              dsimp only at hx hf3 hm3
              subst hx
              left
              have H3 := ma_H_fr (ma_H_fr H f1) hf3
              have e15 : ∀ t, t < 6 → pb_I g3 215 t = nI (sp_dg (R.2 i) t) := fun t ht => by rw [ma_fr_o hf3 (by decide) (by decide)]; exact a3 t ht
              have b1 := sp_dg_le (R.2 i) j
              have b2 := sp_dg_le (R.2 i) k
              have le1 : (nI (sp_dg (R.2 i) j) ≤ nI (sp_dg (R.2 i) k)) = (sp_dg (R.2 i) j ≤ sp_dg (R.2 i) k) := propext (nI_leI (by omega) (by omega))
              have le2 : (nI (sp_dg (R.2 i) k) ≤ nI (sp_dg (R.2 i) j)) = (sp_dg (R.2 i) k ≤ sp_dg (R.2 i) j) := propext (nI_leI (by omega) (by omega))
              have ix1 : nI k * 6 + nI j = nI (6 * k + j) := by rw [lJ6, nI_add]
              have ix2 : nI j * 6 + nI k = nI (6 * j + k) := by rw [lJ6, nI_add]
              have w1 : pb_I g3 216 (6 * k + j) = nI (sp_pj R i k j) := by
                rw [hm3 k j (by omega) (by omega) (by omega)]
                unfold sp_mw
                rw [if_neg (by omega)]
              have w2 : pb_I g3 216 (6 * j + k) = nI (sp_pj R i j k) := by
                rw [hm3 j k (by omega) (by omega) (by omega)]
                unfold sp_mw
                rw [if_neg (by omega)]
              have up : ∀ g4, (∀ a b, a < 6 → b < 6 → ¬ (a = j ∧ b = k) → ¬ (a = k ∧ b = j) → pb_I g4 216 (6 * a + b) = pb_I g3 216 (6 * a + b)) → pb_I g4 216 (6 * j + k) = nI (sp_pj R (i + 1) j k) → pb_I g4 216 (6 * k + j) = nI (sp_pj R (i + 1) k j) → ma_mo g4 (sp_mw R i j (k + 1)) := by
                intro g4 y1 y2 y3 a b ha hb hab
                by_cases c1 : a = j ∧ b = k
                · rw [c1.1, c1.2, y2]
                  unfold sp_mw
                  rw [if_pos (by omega)]
                · by_cases c2 : a = k ∧ b = j
                  · rw [c2.1, c2.2, y3]
                    unfold sp_mw
                    rw [if_pos (by omega)]
                  · rw [y1 a b ha hb c1 c2, hm3 a b ha hb hab]
                    unfold sp_mw
                    by_cases l : max a b < j ∨ (max a b = j ∧ min a b < k)
                    · rw [if_pos l, if_pos (show max a b < j ∨ (max a b = j ∧ min a b < k + 1) by omega)]
                    · rw [if_neg l, if_neg (show ¬ (max a b < j ∨ (max a b = j ∧ min a b < k + 1)) by omega)]
              by_cases q1 : sp_dg (R.2 i) k < sp_dg (R.2 i) j
              · refine ⟨(nI (k + 1), pb_pI g3 216 (6 * j + k) (nI (sp_pj R i j k + 1))), ?_, rfl, ma_fr_pI hf3 (.inl (by decide)) _, up _ (fun a b ha hb c1 c2 => ?_) ?_ ?_⟩
                · simp only [f_66_61s, if_neg (nI_ge hk (show j < 2 ^ 31 by omega)), if_pos (mi_212 H3), mr_212_3 H3, Option.bind_some, if_pos (mx_215 H3 (show j < 6 by omega)), if_pos (mx_215 H3 (show k < 6 by omega)), nI_clamp (show j < 2 ^ 31 by omega), nI_clamp (show k < 2 ^ 31 by omega), e15 j hj, e15 k (by omega), le1, if_neg (Nat.not_le.mpr q1), mr_212_4 H3, ix2, if_pos (mx_216 H3 (show 6 * j + k < 36 by omega)), nI_clamp (show 6 * j + k < 2 ^ 31 by omega), w2, nI_1]
                · rw [ma_Ik, if_pos rfl, if_neg (by omega)]
                · rw [ma_Ik, if_pos rfl, if_pos rfl, sp_pj_s, if_pos q1]
                · rw [ma_Ik, if_pos rfl, if_neg (by omega), w1, sp_pj_s, if_neg (by omega)]
              · by_cases q2 : sp_dg (R.2 i) j < sp_dg (R.2 i) k
                · refine ⟨(nI (k + 1), pb_pI g3 216 (6 * k + j) (nI (sp_pj R i k j + 1))), ?_, rfl, ma_fr_pI hf3 (.inl (by decide)) _, up _ (fun a b ha hb c1 c2 => ?_) ?_ ?_⟩
                  · simp only [f_66_61s, if_neg (nI_ge hk (show j < 2 ^ 31 by omega)), if_pos (mi_212 H3), mr_212_3 H3, Option.bind_some, if_pos (mx_215 H3 (show j < 6 by omega)), if_pos (mx_215 H3 (show k < 6 by omega)), nI_clamp (show j < 2 ^ 31 by omega), nI_clamp (show k < 2 ^ 31 by omega), e15 j hj, e15 k (by omega), le1, le2, if_pos (Nat.not_lt.mp q1), if_neg (Nat.not_le.mpr q2), mr_212_4 H3, ix1, if_pos (mx_216 H3 (show 6 * k + j < 36 by omega)), nI_clamp (show 6 * k + j < 2 ^ 31 by omega), w1, nI_1]
                  · rw [ma_Ik, if_pos rfl, if_neg (by omega)]
                  · rw [ma_Ik, if_pos rfl, if_neg (by omega), w2, sp_pj_s, if_neg q1]
                  · rw [ma_Ik, if_pos rfl, if_pos rfl, sp_pj_s, if_pos q2]
                · refine ⟨(nI (k + 1), g3), ?_, rfl, hf3, up _ (fun _ _ _ _ _ _ => rfl) ?_ ?_⟩
                  · simp only [f_66_61s, if_neg (nI_ge hk (show j < 2 ^ 31 by omega)), if_pos (mi_212 H3), mr_212_3 H3, Option.bind_some, if_pos (mx_215 H3 (show j < 6 by omega)), if_pos (mx_215 H3 (show k < 6 by omega)), nI_clamp (show j < 2 ^ 31 by omega), nI_clamp (show k < 2 ^ 31 by omega), e15 j hj, e15 k (by omega), le1, le2, if_pos (Nat.not_lt.mp q1), if_pos (Nat.not_lt.mp q2), nI_1]
                  · rw [w2, sp_pj_s, if_neg q1]
                  · rw [w1, sp_pj_s, if_neg q2]
            · rintro ⟨x, g3⟩ ⟨hx, hf3, hm3⟩
              dsimp only at hx hf3 hm3
              subst hx
              refine ⟨g3, ?_, hf3, hm3⟩
              simp only [f_66_61s, if_pos (nI_le (Nat.le_refl _) (show j < 2 ^ 31 by omega))]
          obtain ⟨g4, b1, b2, b3⟩ := l3
          refine ⟨(nI (j + 1), g4), ?_, rfl, b2, fun a b ha hb hab => ?_⟩
          · simp only [f_66_53s, if_neg e1, b1, Option.bind_some, nI_1]
          · rw [b3 a b ha hb hab]
            unfold sp_mw
            by_cases l : max a b < j ∨ (max a b = j ∧ min a b < j)
            · rw [if_pos l, if_pos (show max a b < j + 1 ∨ (max a b = j + 1 ∧ min a b < 0) by omega)]
            · rw [if_neg l, if_neg (show ¬ (max a b < j + 1 ∨ (max a b = j + 1 ∧ min a b < 0)) by omega)]
        · rintro ⟨x, g2⟩ ⟨hx, hf2, hm2⟩
          dsimp only at hx hf2 hm2
          subst hx
          exact ⟨g2, rfl, hf2, hm2⟩
      obtain ⟨g2, b1, b2, b3⟩ := l2
      refine ⟨(nI (i + 1), g2), ?_, rfl, ma_fr_t f1 (ma_fr_w b2 (by decide) (by decide)), fun a b ha hb hab => ?_⟩
      · simp only [f_66_10s, if_pos (mi_212 H2), ga2.1, if_neg (nI_ge hi (show R.1 < 2 ^ 31 by omega)), a1, b1, Option.bind_some, nI_1]
      · rw [b3 a b ha hb hab]
        unfold sp_mw
        rw [if_pos (by omega)]
    · rintro ⟨x, g⟩ ⟨hx, hf, hm⟩
      dsimp only at hx hf hm
      subst hx
      obtain ⟨H2, mk2, ga2⟩ := keep g hf
      refine ⟨g, ?_, hf, hm⟩
      simp only [f_66_10s, if_pos (mi_212 H2), ga2.1, if_pos (nI_le (Nat.le_refl _) (show R.1 < 2 ^ 31 by omega))]
  obtain ⟨g, a1, a2⟩ := hl
  refine ⟨g, ?_, a2⟩
  simp only [f_66, if_pos (mi_212 H), mr_212_4 H, Option.bind_some, z1, a1]
theorem sp_ak_le (R : Nat × (Nat → Nat)) {X : Nat} (hX : R.1 < X) (n : Nat) : (ma_fo (sp_akg R) n (0, X)).2 ≤ X := ma_fo_inv (g := sp_akg R) (P := fun _ s => s.2 ≤ X) (a0 := (0, X)) (Nat.le_refl _) n (fun j s hj hs => by
  have := sp_gr_le R j
  unfold sp_akg
  split <;> (try dsimp only) <;> omega)
theorem c_65 (H : ma_H h) (mk : ∀ n, n < 729 → pb_I h 214 n = nI (sp_mk n)) (hR : ma_RR R) (ga : ma_ga h R) (hN : 3000 < N) : ∃ g, f_65 N h 212 = some (if R.1 = 0 then -1 else mI (ma_fo (sp_akg R) 36 (0, R.1 + 1)).1, g) ∧ ma_fr [215, 216] [] h g := by
  have h7 := hR.1
  obtain ⟨g, a1, a2, a3⟩ := c_66 (N := N) H mk hR ga hN
  have H2 := ma_H_fr H a2
  have c0 : pb_I g 212 0 = nI R.1 := by rw [ma_fr_o a2 (by decide) (by decide)]; exact ga.1
  refine ⟨g, ?_, a2⟩
  have hl : pb_wl (f_65_15s N g 212) N (nI (R.1 + 1), -1, 0) = some (if R.1 = 0 then -1 else mI (ma_fo (sp_akg R) 36 (0, R.1 + 1)).1) := by
    by_cases q0 : R.1 = 0
    · rw [if_pos q0]
      obtain ⟨n, rfl⟩ : ∃ n, N = n + 1 := ⟨N - 1, by omega⟩
      unfold pb_wl
      have e0 : nI R.1 ≤ 0 := by rw [q0]; decide
      have e36 : ¬ (36 : Int32) ≤ 0 := by decide
      simp only [f_65_15s, if_neg e36, if_pos (mi_212 H2), c0, if_pos e0]
    · rw [if_neg q0]
      refine ma_lp (fun j s => (nI s.2, mI s.1, nI j)) (sp_akg R) (fun _ s => s.2 ≤ R.1 + 1) 36 (a0 := (0, R.1 + 1)) (by omega) (Nat.le_refl _) rfl (fun j s hj hs => ⟨?_, ?_⟩) ?_
      · have := sp_gr_le R j
        unfold sp_akg
        split <;> (try dsimp only) <;> omega
      · have g1 := sp_gr_le R j
        have p1 := sp_pj_le R R.1 (j / 6) (j % 6)
        have e36 : ¬ (36 : Int32) ≤ nI j := (not_congr (lA36 (by omega))).mpr (by omega)
        have e0 : ¬ nI R.1 ≤ 0 := nI_nle (by omega) (by omega)
        have d1 : nI j / 6 = nI (j / 6) := lL6 (by omega)
        have d2 : nI j - nI (j / 6) * 6 = nI (j % 6) := by rw [lJ6, pk_sub (by omega), show j - 6 * (j / 6) = j % 6 by omega]
        have eq : (nI (j / 6) = nI (j % 6)) = (j / 6 = j % 6) := propext (nI_eq (by omega) (by omega))
        unfold sp_akg
        by_cases q : j / 6 = j % 6
        · simp only [f_65_15s, if_neg e36, if_pos (mi_212 H2), c0, if_neg e0, mr_212_4 H2, Option.bind_some, if_pos (mx_216 H2 hj), d1, d2, eq, if_pos q, nI_1]
          rw [if_neg (fun z => z.1 q)]
        · have w : pb_I g 216 j = nI (sp_pj R R.1 (j / 6) (j % 6)) := by
            have := a3 (j / 6) (j % 6) (by omega) (by omega) q
            rw [show 6 * (j / 6) + j % 6 = j by omega] at this
            exact this
          have mx : (if nI (sp_pj R R.1 (j / 6) (j % 6)) < nI R.1 - nI (sp_pj R R.1 (j / 6) (j % 6)) then nI R.1 - nI (sp_pj R R.1 (j / 6) (j % 6)) else nI (sp_pj R R.1 (j / 6) (j % 6))) = nI (sp_gr R j) := by
            rw [pk_sub p1]
            unfold sp_gr
            by_cases z : sp_pj R R.1 (j / 6) (j % 6) < R.1 - sp_pj R R.1 (j / 6) (j % 6)
            · rw [if_pos (nI_lt z (by omega)), Nat.max_eq_right (by omega)]
            · rw [if_neg (nI_nlt (by omega) (by omega)), Nat.max_eq_left (by omega)]
          have le : (nI s.2 ≤ nI (sp_gr R j)) = (s.2 ≤ sp_gr R j) := propext (nI_leI (by omega) (by omega))
          simp only [f_65_15s, if_neg e36, if_pos (mi_212 H2), c0, if_neg e0, mr_212_4 H2, Option.bind_some, if_pos (mx_216 H2 hj), d1, d2, eq, if_neg q, nI_clamp (show j < 2 ^ 31 by omega), w, mx, le, lI10, nI_add, nI_1]
          by_cases z : sp_gr R j < s.2
          · rw [if_neg (by omega), if_pos ⟨q, z⟩, mI_s]
          · rw [if_pos (by omega), if_neg (fun y => z y.2)]
      · intro _
        simp only [f_65_15s]
        rfl
  simp only [f_65, if_pos (mi_212 H), a1, Option.bind_some, if_pos (mi_212 H2), c0, nI_1, hl]
theorem m_253 (H : ma_H h) (hR : ma_RR R) (gb : ma_gb h R) (hN : 3000 < N) : f_253 N h 217 = some (if R.1 = 0 then -1 else mI (ma_fo (sp_akg R) 36 (0, R.1 + 1)).1) := by
  have h7 := hR.1
  have hl : pb_wl (f_253_8s N h 217) N (-1, 1000000, 0) = some (if R.1 = 0 then -1 else mI (ma_fo (sp_akg R) 36 (0, R.1 + 1)).1) := by
    by_cases q0 : R.1 = 0
    · rw [if_pos q0]
      obtain ⟨n, rfl⟩ : ∃ n, N = n + 1 := ⟨N - 1, by omega⟩
      unfold pb_wl
      have e0 : nI R.1 ≤ 0 := by rw [q0]; decide
      have e6 : ¬ (6 : Int32) ≤ 0 := by decide
      simp only [f_253_8s, if_neg e6, if_pos (mi_217 H), gb.1, if_pos e0]
    · rw [if_neg q0, sp_ak_eq h7]
      have e0 : ¬ nI R.1 ≤ 0 := nI_nle (by omega) (by omega)
      have hi : ∀ (a : Nat), a < 6 → ∀ s : Nat × Nat, s.2 ≤ 1000000 → pb_wl (f_253_24s N h 217 (nI a)) N (mI s.1, nI s.2, 0) = some (mI (ma_fo (fun b => sp_akg R (6 * a + b)) 6 s).1, nI (ma_fo (fun b => sp_akg R (6 * a + b)) 6 s).2) ∧ (ma_fo (fun b => sp_akg R (6 * a + b)) 6 s).2 ≤ 1000000 := by
        intro a ha s hs
        constructor
        · refine ma_lp (fun b s => (mI s.1, nI s.2, nI b)) (fun b => sp_akg R (6 * a + b)) (fun _ s => s.2 ≤ 1000000) 6 (a0 := s) (by omega) hs rfl (fun b s hb hs => ⟨?_, ?_⟩) ?_
          · have := sp_gr_le R (6 * a + b)
            unfold sp_akg
            split <;> (try dsimp only) <;> omega
          · have e6 : ¬ (6 : Int32) ≤ nI b := (not_congr (lA6 (by omega))).mpr (by omega)
            have g1 := sp_gr_le R (6 * a + b)
            have p1 := sp_pj_le R R.1 a b
            have n1 : (6 * a + b) / 6 = a := by omega
            have n2 : (6 * a + b) % 6 = b := by omega
            have e52 : f_252 N h 217 (nI (2 ^ a)) (nI (2 ^ b)) = some (nI (sp_pj R R.1 a b)) := by rw [m_252 H hR gb (ma_p2l ha) (ma_p2l hb) hN, sp_pf_pj R ha hb]
            have e70 : f_170 (nI (sp_pj R R.1 a b)) (nI R.1 - nI (sp_pj R R.1 a b)) = some (nI (sp_gr R (6 * a + b))) := by
              rw [pk_sub p1, m_170 (by omega) (by omega)]
              unfold sp_gr
              rw [n1, n2]
            have eq : (nI a = nI b) = (a = b) := propext (nI_eq (by omega) (by omega))
            have le : (nI s.2 ≤ nI (sp_gr R (6 * a + b))) = (s.2 ≤ sp_gr R (6 * a + b)) := propext (nI_leI (by omega) (by omega))
            simp only [f_253_24s, if_neg e6, if_pos (mi_217 H), ma_shl (show a < 31 by omega), ma_shl (show b < 31 by omega), e52, Option.bind_some, gb.1, e70, eq, le, lI10, nI_add, nI_1]
            unfold sp_akg
            rw [n1, n2]
            by_cases q : a = b
            · rw [if_pos q, if_neg (fun z => z.1 q)]
            · rw [if_neg q]
              by_cases z : sp_gr R (6 * a + b) < s.2
              · rw [if_neg (by omega), if_pos ⟨q, z⟩, mI_s]
              · rw [if_pos (by omega), if_neg (fun y => z y.2)]
          · intro _
            simp only [f_253_24s]
            rfl
        · exact ma_fo_inv (g := fun b => sp_akg R (6 * a + b)) (P := fun _ s => s.2 ≤ 1000000) hs 6 (fun b s hb hs => by
            have := sp_gr_le R (6 * a + b)
            unfold sp_akg
            split <;> (try dsimp only) <;> omega)
      have e36 : ∀ (g : Nat → Nat × Nat → Nat × Nat) (s : Nat × Nat), ma_fo g 36 s = ma_fo (fun a s => ma_fo (fun b => g (6 * a + b)) 6 s) 6 s := fun g s => rfl
      rw [e36]
      refine ma_lp (fun j s => (mI s.1, nI s.2, nI j)) (fun a s => ma_fo (fun b => sp_akg R (6 * a + b)) 6 s) (fun _ s => s.2 ≤ 1000000) 6 (a0 := (0, 1000000)) (by omega) (Nat.le_refl _) rfl (fun j s hj hs => ⟨(hi j hj s hs).2, ?_⟩) ?_
      · have e6 : ¬ (6 : Int32) ≤ nI j := (not_congr (lA6 (by omega))).mpr (by omega)
        simp only [f_253_8s, if_neg e6, if_pos (mi_217 H), gb.1, if_neg e0, (hi j hj s hs).1, Option.bind_some, nI_1]
      · intro _
        simp only [f_253_8s]
        rfl
  simp only [f_253, hl, Option.bind_some]
theorem q_fits (I : ma_INV h) (hN : 3000 < N) (x w : Int32) : ma_Q h (f_140 N h 0 x w) (fun g => f_255 N g 217 x w) := by
  have H := I.1
  rcases ma_G I hN x with ⟨e1, e2⟩ | ⟨l, R, g1, e1, hR, a1, qg, H1, mk, ga, e2⟩
  · obtain ⟨g2, m1, m2⟩ := e2 _ (ma_q_r h)
    exact ⟨-2, h, g2, by simp only [f_140, if_pos (mi_0 H), mr_0_0 H, Option.bind_some, if_pos (mi_1 H), e1], ma_q_r h, by simp only [f_255, if_pos (mi_217 H), m1, Option.bind_some, not_true_eq_false, if_false], m2⟩
  · have h7 := hR.1
    have hc : ∀ r g3, f_63 N g1 212 w = some (r, g3) → f_140 N h 0 x w = some (r, g3) := fun r g3 z => by
      simp only [f_140, if_pos (mi_0 H), mr_0_0 H, Option.bind_some, if_pos (mi_1 H), e1, mr_0_9 H, if_pos (mi_212 H), a1, if_pos (mi_0 H1), mr_0_9 H1, if_pos (mi_212 H1), z]
    by_cases w1 : w = 1
    · subst w1
      obtain ⟨g3, b1, b2⟩ := c_65 (N := N) H1 mk hR ga hN
      have qg3 : ma_q h g3 := ma_q_t qg (ma_q_fr b2 (by decide))
      obtain ⟨g2, m1, m2, m3, gb⟩ := e2 _ qg3
      refine ⟨if R.1 = 0 then -1 else mI (ma_fo (sp_akg R) 36 (0, R.1 + 1)).1, g3, g2, hc _ g3 ?_, qg3, ?_, m2⟩
      · simp only [f_63, i10, not_false_eq_true, if_true, eq_self, not_true_eq_false, if_false, if_pos (mi_212 H1), b1, Option.bind_some]
      · have z : f_168 1 2 7 = some 0 := by decide
        have z10 : (1 : Int32) < 10 := by decide
        simp only [f_255, if_pos (mi_217 (ma_H_q H qg3)), m1, Option.bind_some, i10, not_false_eq_true, if_true, if_pos z10, z, eq_self, not_true_eq_false, if_false, if_pos (mi_217 m3), m_253 m3 hR gb hN]
    · obtain ⟨g2, m1, m2, m3, gb⟩ := e2 _ qg
      have hm : ∀ r, (∀ g3, f_255 N g1 217 x w = some (r, g3) → True) → True := fun _ _ => trivial
      by_cases w0 : w = 0
      · subst w0
        have z : f_168 0 2 7 = some 0 := by decide
        have z10 : (0 : Int32) < 10 := by decide
        exact ⟨nI R.1, g1, g2, hc _ g1 (by simp only [f_63, eq_self, not_true_eq_false, if_false, if_pos (mi_212 H1), ga.1]), qg, by simp only [f_255, if_pos (mi_217 H1), m1, Option.bind_some, i10, not_false_eq_true, if_true, if_pos z10, z, eq_self, not_true_eq_false, if_false, if_pos (mi_217 m3), gb.1], m2⟩
      · by_cases w10 : w < 10
        · by_cases w2 : w < 2
          · have z : f_168 w 2 7 = some 0 := by unfold f_168; rw [if_pos w2]
            exact ⟨-2, g1, g2, hc _ g1 (by simp only [f_63, f_63_38, w0, w1, not_false_eq_true, if_true, if_pos w2, if_pos w10]), qg, by simp only [f_255, if_pos (mi_217 H1), m1, Option.bind_some, i10, not_false_eq_true, if_true, if_pos w10, z, w0, w1], m2⟩
          · by_cases w8 : 8 ≤ w
            · have z : f_168 w 2 7 = some 0 := by
                unfold f_168
                rw [if_neg w2, if_pos]
                rw [Int32.le_iff_toInt_le] at w8
                rw [Int32.lt_iff_toInt_lt]
                have k1 : (8 : Int32).toInt = 8 := by decide
                have k2 : (7 : Int32).toInt = 7 := by decide
                omega
              exact ⟨-2, g1, g2, hc _ g1 (by simp only [f_63, f_63_38, w0, w1, not_false_eq_true, if_true, if_neg w2, if_pos w8, if_pos w10]), qg, by simp only [f_255, if_pos (mi_217 H1), m1, Option.bind_some, i10, not_false_eq_true, if_true, if_pos w10, z, w0, w1], m2⟩
            · have ht : ∃ t, t < 6 ∧ w - 2 = nI t ∧ w = nI (t + 2) := by
                have hz0 : ¬ w < 0 := fun q => w2 (by
                  rw [Int32.lt_iff_toInt_lt] at q ⊢
                  have k1 : (0 : Int32).toInt = 0 := by decide
                  have k2 : (2 : Int32).toInt = 2 := by decide
                  omega)
                obtain ⟨n, hn, rfl⟩ := nI_of hz0
                rw [lD2 hn] at w2
                rw [lA8 hn] at w8
                exact ⟨n - 2, by omega, lK2 (by omega), by rw [show n - 2 + 2 = n by omega]⟩
              obtain ⟨t, ht6, et, ew⟩ := ht
              have z : f_168 w 2 7 = some 1 := by
                rw [ew]
                have := ma_in (a := t + 2) (b := 2) (c := 7) (by omega) (by decide) (by decide)
                rw [if_pos (by omega)] at this
                exact this
              have c1 := c_64 (N := N) H1 mk hR ga ht6 hN
              have d1 := m_254 (N := N) m3 hR gb ht6 hN
              have ex : ∃ r, f_64 N g1 212 (nI t) = some r ∧ f_254 N g2 217 (nI t) = some r := by
                by_cases su : sp_su R t
                · exact ⟨_, c1.1 su, d1.1 su⟩
                · exact ⟨_, c1.2 su, d1.2 su⟩
              obtain ⟨r, r1, r2⟩ := ex
              exact ⟨r, g1, g2, hc _ g1 (by simp only [f_63, w0, w1, not_false_eq_true, if_true, if_neg w2, if_neg w8, if_pos (mi_212 H1), et, r1, Option.bind_some]), qg, by simp only [f_255, if_pos (mi_217 H1), m1, Option.bind_some, i10, not_false_eq_true, if_true, if_pos w10, z, if_false, if_pos (mi_217 m3), et, r2], m2⟩
        · have hz0 : ¬ w < 0 := fun q => w10 (by
            rw [Int32.lt_iff_toInt_lt] at q ⊢
            have k1 : (0 : Int32).toInt = 0 := by decide
            have k2 : (10 : Int32).toInt = 10 := by decide
            omega)
          obtain ⟨n, hn, rfl⟩ := nI_of hz0
          rw [lD10 hn] at w10
          have w10' : ¬ nI n < 10 := (not_congr (lD10 hn)).mpr w10
          have w2 : ¬ nI n < 2 := (not_congr (lD2 hn)).mpr (by omega)
          have w8 : (8 : Int32) ≤ nI n := (lA8 hn).mpr (by omega)
          have es : nI n - 10 = nI (n - 10) := lK10 (by omega)
          by_cases q : n - 10 < R.1
          · exact ⟨nI (R.2 (n - 10)), g1, g2, hc _ g1 (by simp only [f_63, f_63_38, w0, w1, not_false_eq_true, if_true, if_neg w2, if_pos w8, if_neg w10', if_pos (mi_212 H1), ga.1, es, if_neg (nI_ge q (show R.1 < 2 ^ 31 by omega)), mr_212_1 H1, Option.bind_some, if_pos (mx_213 H1 (show n - 10 < 729 by omega)), nI_clamp (show n - 10 < 2 ^ 31 by omega), ga.2 (n - 10) q]), qg, by simp only [f_255, if_pos (mi_217 H1), m1, Option.bind_some, i10, not_false_eq_true, if_true, if_neg w10', if_pos (mi_217 m3), gb.1, es, if_neg (nI_ge q (show R.1 < 2 ^ 31 by omega)), mr_217_40 m3, if_pos (mx_235 m3 (show n - 10 < 729 by omega)), nI_clamp (show n - 10 < 2 ^ 31 by omega), gb.2 (n - 10) q], m2⟩
          · exact ⟨-2, g1, g2, hc _ g1 (by simp only [f_63, f_63_38, w0, w1, not_false_eq_true, if_true, if_neg w2, if_pos w8, if_neg w10', if_pos (mi_212 H1), ga.1, es, if_pos (nI_le (show R.1 ≤ n - 10 by omega) (show n - 10 < 2 ^ 31 by omega))]), qg, by simp only [f_255, if_pos (mi_217 H1), m1, Option.bind_some, i10, not_false_eq_true, if_true, if_neg w10', if_pos (mi_217 m3), gb.1, es, if_pos (nI_le (show R.1 ≤ n - 10 by omega) (show n - 10 < 2 ^ 31 by omega))], m2⟩
end
