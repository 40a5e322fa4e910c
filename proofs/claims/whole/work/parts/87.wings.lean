/-! wings: the developers' way -/
section
variable {h : pb_HP} {N v m : Nat} {K : ma_K}
theorem c_122 {c : Nat} {w : Nat → Nat} (H : ma_H h) (V : ma_V h v K) (O : ma_OK K) (hc : c < 6) (row : ∀ o, o ≤ c → pb_I h 199 o = nI (w o)) (hw : ∀ o, o ≤ c → w o ≤ 6) (hN : 3000 < N) : f_122 N h 198 v (nI c) = some (if wg_ok K w c then 1 else 0) := by
  have f := ma_fi_sp (fun o => decide (w o = w c) && (K 5 o &&& K 5 c != 0)) c 0
  obtain ⟨r, hr⟩ : ∃ r, r = ma_fi (fun o => decide (w o = w c) && (K 5 o &&& K 5 c != 0)) c 0 := ⟨_, rfl⟩
  rw [← hr] at f
  have wc := hw c (Nat.le_refl _)
  have st : ∀ j, j < c → f_122_2s N h 198 v (nI c) (nI j) = if (decide (w j = w c) && (K 5 j &&& K 5 c != 0)) = true then some (.inr (.inl 0)) else some (.inl (nI (j + 1))) := fun j hj => by
    have wj := hw j (by omega)
    have b3 : K 5 j &&& K 5 c < 2 ^ 31 := Nat.lt_of_le_of_lt Nat.and_le_left (by have := (O.2.2.1 j).2.2.2.2.1; omega)
    have fj : pb_I h (v + 5) j = nI (K 5 j) := V.2.2.2.2.2.2.2.1 j (by omega)
    have fc : pb_I h (v + 5) c = nI (K 5 c) := V.2.2.2.2.2.2.2.1 c hc
    simp only [f_122_2s, if_neg (nI_ge hj (show c < 2 ^ 31 by omega)), if_pos (mi_198 H), mr_198_0 H, Option.bind_some, if_pos (mx_199 H (show j < 6 by omega)), if_pos (mx_199 H hc), nI_clamp (show j < 2 ^ 31 by omega), nI_clamp (show c < 2 ^ 31 by omega), row j (by omega), row c (Nat.le_refl _), nI_eq (show w j < 2 ^ 31 by omega) (show w c < 2 ^ 31 by omega), if_pos (wv_is H V.1), jv_r6 H V.1, if_pos (wv_x5 H V.1 (show j < 6 by omega)), if_pos (wv_x5 H V.1 hc), fj, fc, fa_and, lE0 b3, nI_1]
    by_cases c1 : w j = w c
    · by_cases c2 : K 5 j &&& K 5 c = 0
      · simp [c1, c2]
      · simp [c1, c2]
    · simp [c1]
  have hl : pb_wl (f_122_2s N h 198 v (nI c)) N (nI 0) = some (if r < c then .inl 0 else .inr ()) := by
    refine ma_wl (fun j => nI j) r N 0 (by omega) (fun j x y => ?_) ?_
    · rw [st j (by omega), if_neg (by rw [f.2.2.1 j (by omega) (by omega)]; decide)]
    · rw [Nat.zero_add]
      by_cases z : r < c
      · rw [st r z, if_pos (f.2.2.2 (by omega)), if_pos z]
      · have e : nI c ≤ nI r := nI_le (by omega) (by omega)
        simp only [f_122_2s, if_pos e, if_neg z]
  have hl : pb_wl (f_122_2s N h 198 v (nI c)) N 0 = some (if r < c then .inl 0 else .inr ()) := hl
  unfold f_122 wg_ok
  rw [hl, ← hr, Option.bind_some]
  by_cases z : r < c
  · rw [if_pos z, if_neg (by rw [decide_eq_true_iff]; omega)]
  · rw [if_neg z, if_pos (by rw [decide_eq_true_iff]; omega)]
theorem c_121 (O : ma_OK K) (hv : v + 6 < 199) (hm : m ≤ 6) (hN : 3000 < N) : ∀ d c w h M, c + d = K 0 1 → d < M → ma_H h → ma_V h v K → (∀ o, o < c → pb_I h 199 o = nI (w o) ∧ w o ≤ 6) → (∀ w', wg_D K m d c w = some w' → ∃ g, f_rec121 N M h 198 v (nI c) (nI m) = some (1, g) ∧ ma_fr [199] [] h g ∧ ∀ o, o < K 0 1 → pb_I g 199 o = nI (w' o) ∧ w' o ≤ 6) ∧ (wg_D K m d c w = none → ∃ g, f_rec121 N M h 198 v (nI c) (nI m) = some (0, g) ∧ ma_fr [199] [] h g ∧ ∀ o, o < c → pb_I g 199 o = nI (w o))
  | 0, c, w, h, M, hc, hM, H, V, row => by
    obtain ⟨M', rfl⟩ : ∃ M', M = M' + 1 := ⟨M - 1, by omega⟩
    have n6 := O.2.1
    have e : ¬ nI c < nI (K 0 1) := fun z => by have := (nI_ltI (show c < 2 ^ 31 by omega) (show K 0 1 < 2 ^ 31 by omega)).mp z; omega
    have u : f_rec121 N (M' + 1) h 198 v (nI c) (nI m) = some (1, h) := by
      show f_121 (f_rec121 N M') N h 198 v (nI c) (nI m) = _
      unfold f_121
      rw [if_pos (wv_is H V.1), V.2.2.1, if_neg e]
    refine ⟨fun w' q => ⟨h, u, ma_fr_r _ _ _, fun o ho => ?_⟩, fun q => absurd q (by unfold wg_D; simp)⟩
    have q : some w = some w' := q
    cases q
    exact row o (by omega)
  | d + 1, c, w, h, M, hc, hM, H, V, row => by
    obtain ⟨M', rfl⟩ : ∃ M', M = M' + 1 := ⟨M - 1, by omega⟩
    have n6 := O.2.1
    have ih := c_121 O hv hm hN d (c + 1)
    have e : nI c < nI (K 0 1) := (nI_ltI (show c < 2 ^ 31 by omega) (show K 0 1 < 2 ^ 31 by omega)).mpr (by omega)
    have t4 : pb_I h (v + 4) c = nI (K 4 c) := V.2.2.2.2.2.2.1 c (by omega)
    have b4 := (O.2.2.1 c).2.2.2.1
    have cc : (nI c).toNatClampNeg = c := nI_clamp (by omega)
    have Vp : ∀ g, ma_fr [199] [] h g → ma_V g v K := fun g f => ma_V_e V (fun o a b => ma_fr_o f (by simp; omega) (by simp))
    have rowp : ∀ g t, (∀ o, o < c → pb_I g 199 o = nI (w o)) → t ≤ 6 → ∀ o, o < c + 1 → pb_I (pb_pI g 199 c (nI t)) 199 o = nI (wg_u w c t o) ∧ wg_u w c t o ≤ 6 := fun g t q ht o ho => by
      unfold wg_u
      rw [ma_Ik, if_pos rfl]
      by_cases z : o = c
      · rw [if_pos z, if_pos z]; exact ⟨rfl, ht⟩
      · rw [if_neg z, if_neg z]; exact ⟨q o (by omega), (row o (by omega)).2⟩
    have top : f_rec121 N (M' + 1) h 198 v (nI c) (nI m) = if 0 < nI (K 4 c) then ((pb_wl (f_121_40s (f_rec121 N M') N 198 v (nI c) (nI m)) N ((0, h))).bind fun e13 => (match e13 with | .inl q15 => some q15 | .inr x14 => some ((0, x14)))) else ((f_rec121 N M' (pb_pI h 199 c 6) 198 v (nI c + 1) (nI m)).bind fun (r19, h20) => (if r19 = 0 ∨ r19 = 1 then (some ((r19, h20))) else none)) := by
      show f_121 (f_rec121 N M') N h 198 v (nI c) (nI m) = _
      unfold f_121
      rw [if_pos (wv_is H V.1), V.2.2.1, if_pos e, jv_r5 H V.1, Option.bind_some, if_pos (wv_x4 H V.1 (show c < 6 by omega))]
      simp only [cc, t4, if_pos (mi_198 H), mr_198_0 H, Option.bind_some, if_pos (mx_199 H (show c < 6 by omega))]
      rfl
    rw [top]
    unfold wg_D
    by_cases k4 : K 4 c = 0
    · have f6 : ma_fr [199] [] h (pb_pI h 199 c 6) := ma_fr_pI (ma_fr_r _ _ _) (.inl (by decide)) _
      have ih := ih (wg_u w c 6) (pb_pI h 199 c 6) M' (by omega) (by omega) (ma_H_fr H f6) (Vp _ f6) (rowp h 6 (fun o ho => (row o ho).1) (by decide))
      rw [if_neg (show ¬ 0 < nI (K 4 c) from fun z => by have := (lB0 (show K 4 c < 2 ^ 31 by omega)).mp z; omega), if_pos k4, nI_1]
      refine ⟨fun w' q => ?_, fun q => ?_⟩
      · obtain ⟨g, a1, a2, a3⟩ := ih.1 w' q
        rw [a1]
        exact ⟨g, rfl, ma_fr_t f6 a2, a3⟩
      · obtain ⟨g, a1, a2, a3⟩ := ih.2 q
        rw [a1]
        refine ⟨g, rfl, ma_fr_t f6 a2, fun o ho => ?_⟩
        rw [a3 o (by omega)]; unfold wg_u; rw [if_neg (by omega)]
    · rw [if_pos (show 0 < nI (K 4 c) from (lB0 (show K 4 c < 2 ^ 31 by omega)).mpr (by omega)), if_neg k4]
      obtain ⟨F, eF⟩ : ∃ F, F = fun t => if wg_ok K (wg_u w c t) c then wg_D K m d (c + 1) (wg_u w c t) else none := ⟨_, rfl⟩
      rw [← eF]
      have lp : ∃ x, pb_wl (f_121_40s (f_rec121 N M') N 198 v (nI c) (nI m)) N (0, h) = some x ∧ ((∃ g w', x = .inl (1, g) ∧ wg_f F m 0 = some w' ∧ ma_fr [199] [] h g ∧ ∀ o, o < K 0 1 → pb_I g 199 o = nI (w' o) ∧ w' o ≤ 6) ∨ (∃ g, x = .inr g ∧ wg_f F m 0 = none ∧ ma_fr [199] [] h g ∧ ∀ o, o < c → pb_I g 199 o = nI (w o))) := by
        refine ma_lh (fun t s => s.1 = nI t ∧ ma_fr [199] [] h s.2 ∧ (∀ o, o < c → pb_I s.2 199 o = nI (w o)) ∧ wg_f F m 0 = wg_f F (m - t) t) _ m 0 N _ (by omega) (by omega) ⟨rfl, ma_fr_r _ _ _, fun o ho => (row o ho).1, rfl⟩ ?_ ?_
        · rintro t ⟨y, g⟩ _ ht ⟨hy, fg, rg, eg⟩
          dsimp only at hy fg rg eg
          subst hy
          have Hg := ma_H_fr H fg
          have f1 : ma_fr [199] [] h (pb_pI g 199 c (nI t)) := ma_fr_pI fg (.inl (by decide)) _
          have H1 := ma_H_fr H f1
          have r1 := rowp g t rg (by omega)
          have z := c_122 (N := N) (w := wg_u w c t) H1 (Vp _ f1) O (show c < 6 by omega) (fun o ho => (r1 o (by omega)).1) (fun o ho => (r1 o (by omega)).2) hN
          have sw : wg_f F (m - t) t = if (F t).isSome then F t else wg_f F (m - (t + 1)) (t + 1) := by
            rw [show m - t = (m - (t + 1)) + 1 by omega]; rfl
          have st : f_121_40s (f_rec121 N M') N 198 v (nI c) (nI m) (nI t, g) = ((some (if wg_ok K (wg_u w c t) c then (1 : Int32) else 0)).bind fun r7 => (if r7 = 0 then (some (.inl ((nI t + 1, pb_pI g 199 c (nI t))))) else ((f_rec121 N M' (pb_pI g 199 c (nI t)) 198 v (nI c + 1) (nI m)).bind fun (r8, h9) => (if r8 = 0 then (some (.inl ((nI t + 1, h9)))) else (some (.inr (.inl ((1, h9)))))))) ) := by
            unfold f_121_40s
            dsimp only
            rw [if_neg (nI_ge ht (show m < 2 ^ 31 by omega)), if_pos (mi_198 Hg), mr_198_0 Hg, Option.bind_some, if_pos (mx_199 Hg (show c < 6 by omega)), cc, z]
          rw [st, Option.bind_some]
          by_cases q : wg_ok K (wg_u w c t) c = true
          · have Ft : F t = wg_D K m d (c + 1) (wg_u w c t) := by rw [eF]; dsimp only; rw [if_pos q]
            have ih := ih (wg_u w c t) (pb_pI g 199 c (nI t)) M' (by omega) (by omega) H1 (Vp _ f1) r1
            rw [if_pos q, if_neg (by decide), nI_1]
            cases ed : wg_D K m d (c + 1) (wg_u w c t) with
            | some w' =>
              obtain ⟨g2, a1, a2, a3⟩ := ih.1 w' ed
              right
              rw [a1]
              refine ⟨_, rfl, .inl ⟨g2, w', rfl, ?_, ma_fr_t f1 a2, a3⟩⟩
              rw [eg, sw, Ft, ed]; rfl
            | none =>
              obtain ⟨g2, a1, a2, a3⟩ := ih.2 ed
              left
              rw [a1]
              refine ⟨(nI (t + 1), g2), by rw [Option.bind_some]; dsimp only; rw [if_pos rfl, nI_1], rfl, ma_fr_t f1 a2, fun o ho => ?_, ?_⟩
              · show pb_I g2 199 o = _
                rw [a3 o (by omega)]; unfold wg_u; rw [if_neg (by omega)]
              · rw [eg, sw, Ft, ed]; rfl
          · have Ft : F t = none := by rw [eF]; dsimp only; rw [if_neg q]
            left
            rw [if_neg q, if_pos rfl, nI_1]
            refine ⟨_, rfl, rfl, f1, fun o ho => ?_, ?_⟩
            · show pb_I (pb_pI g 199 c _) 199 o = _
              rw [ma_Ik, if_pos rfl, if_neg (by omega)]; exact rg o ho
            · rw [eg, sw, Ft]; rfl
        · rintro ⟨y, g⟩ ⟨hy, fg, rg, eg⟩
          dsimp only at hy fg rg eg
          subst hy
          refine ⟨.inr g, ?_, .inr ⟨g, rfl, ?_, fg, rg⟩⟩
          · simp only [f_121_40s, if_pos (nI_le (Nat.le_refl m) (show m < 2 ^ 31 by omega))]
          · rw [eg, Nat.sub_self]; rfl
      obtain ⟨x, x1, x2⟩ := lp
      rw [x1, Option.bind_some]
      rcases x2 with ⟨g, w', rfl, y1, y2, y3⟩ | ⟨g, rfl, y1, y2, y3⟩
      · refine ⟨fun w'' q => ?_, fun q => absurd q (by rw [y1]; simp)⟩
        rw [y1] at q
        cases q
        exact ⟨g, rfl, y2, y3⟩
      · exact ⟨fun w'' q => absurd q (by rw [y1]; simp), fun _ => ⟨g, rfl, y2, y3⟩⟩
/-- as few as will do -/
def wg_n (K : ma_K) : Nat := ma_fi (fun m => (wg_E K m (K 0 1) 0 (fun _ => 0)).isSome) 6 0
theorem wg_n_b {K : ma_K} (O : ma_OK K) : wg_n K ≤ 6 ∧ (∀ m, m < wg_n K → wg_E K m (K 0 1) 0 (fun _ => 0) = none) ∧ wg_E K (wg_n K) (K 0 1) 0 (fun _ => 0) ≠ none := by
  have f := ma_fi_sp (fun m => (wg_E K m (K 0 1) 0 (fun _ => 0)).isSome) 6 0
  have s6 := wg_E_6 (K := K) (K 0 1) 0 (fun _ => 0) (by have := O.2.1; omega) (fun o ho => absurd ho (Nat.not_lt_zero o))
  unfold wg_n
  generalize ma_fi (fun m => (wg_E K m (K 0 1) 0 (fun _ => 0)).isSome) 6 0 = r at *
  refine ⟨by omega, fun m hm => ?_, ?_⟩
  · have := f.2.2.1 m (by omega) hm
    cases q : wg_E K m (K 0 1) 0 (fun _ => 0) with
    | none => rfl
    | some x => rw [q] at this; exact absurd this (by simp)
  · rcases Nat.lt_or_ge r 6 with z | z
    · have := f.2.2.2 (by omega)
      intro q
      rw [q] at this
      exact absurd this (by decide)
    · have : r = 6 := by omega
      rw [this]; exact s6
theorem c_120 (H : ma_H h) (V : ma_V h v K) (O : ma_OK K) (hv : v + 6 < 199) {w' : Nat → Nat} (ew : wg_E K (wg_n K) (K 0 1) 0 (fun _ => 0) = some w') (hN : 3000 < N) : ∃ g, f_120 N h 198 v = some (nI (wg_n K), g) ∧ ma_fr [199] [] h g ∧ ∀ o, o < K 0 1 → pb_I g 199 o = nI (w' o) ∧ w' o ≤ 6 := by
  have b := wg_n_b O
  have n6 := O.2.1
  have DE : ∀ m, m ≤ 6 → wg_D K m (K 0 1) 0 (fun _ => 0) = wg_E K m (K 0 1) 0 (fun _ => 0) := fun m hm => wg_D_E hm _ _ _ (fun a ha => absurd ha (Nat.not_lt_zero a))
  have lp : ∃ x, pb_wl (f_120_2s N 198 v) N (0, h) = some x ∧ ∃ g, x = .inl (nI (wg_n K), g) ∧ ma_fr [199] [] h g ∧ ∀ o, o < K 0 1 → pb_I g 199 o = nI (w' o) ∧ w' o ≤ 6 := by
    refine ma_lh (fun t s => s.1 = nI t ∧ ma_fr [199] [] h s.2) _ (wg_n K) 0 N _ (by omega) (by omega) ⟨rfl, ma_fr_r _ _ _⟩ ?_ ?_
    · rintro t ⟨y, g⟩ _ ht ⟨hy, fg⟩
      dsimp only at hy fg
      subst hy
      have Hg := ma_H_fr H fg
      have Vg : ma_V g v K := ma_V_e V (fun o a b => ma_fr_o fg (by simp; omega) (by simp))
      obtain ⟨g2, a1, a2, a3⟩ := (c_121 (m := t) O hv (by omega) hN (K 0 1) 0 (fun _ => 0) g 8 (by omega) (by omega) Hg Vg (fun o ho => absurd ho (Nat.not_lt_zero o))).2 (by rw [DE t (by omega)]; exact b.2.1 t ht)
      have a1 : f_rec121 N 8 g 198 v 0 (nI t) = some (0, g2) := a1
      left
      refine ⟨(nI (t + 1), g2), ?_, rfl, ma_fr_t fg a2⟩
      simp only [f_120_2s, if_neg (fun z => by have := (lB6 (show t < 2 ^ 31 by omega)).mp z; omega : ¬ (6 : Int32) < nI t), if_pos (mi_198 Hg), a1, Option.bind_some, if_true, nI_1]
    · rintro ⟨y, g⟩ ⟨hy, fg⟩
      dsimp only at hy fg
      subst hy
      have Hg := ma_H_fr H fg
      have Vg : ma_V g v K := ma_V_e V (fun o a b => ma_fr_o fg (by simp; omega) (by simp))
      obtain ⟨g2, a1, a2, a3⟩ := (c_121 (m := wg_n K) O hv b.1 hN (K 0 1) 0 (fun _ => 0) g 8 (by omega) (by omega) Hg Vg (fun o ho => absurd ho (Nat.not_lt_zero o))).1 w' (by rw [DE _ b.1]; exact ew)
      have a1 : f_rec121 N 8 g 198 v 0 (nI (wg_n K)) = some (1, g2) := a1
      refine ⟨_, ?_, g2, rfl, ma_fr_t fg a2, a3⟩
      simp only [f_120_2s, if_neg (fun z => by have := (lB6 (show wg_n K < 2 ^ 31 by omega)).mp z; omega : ¬ (6 : Int32) < nI (wg_n K)), if_pos (mi_198 Hg), a1, Option.bind_some, i10, if_false]
  obtain ⟨x, x1, g, rfl, x2, x3⟩ := lp
  refine ⟨g, ?_, x2, x3⟩
  unfold f_120
  rw [x1, Option.bind_some]
end
