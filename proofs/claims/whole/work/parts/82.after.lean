/-! after: what comes of a year's deeds -/
def af_q (D : Nat → ma_dd) (S : ma_S) : Nat → ma_S
  | 0 => S
  | k + 1 => (sp_act (af_q D S k) (D k)).getD (af_q D S k)
/-- how many deeds are done -/
def af_e (D : Nat → ma_dd) (S : ma_S) (T : Nat) : Nat := ma_fi (fun k => (sp_act (af_q D S k) (D k)).isNone) T 0
theorem af_e_b (D : Nat → ma_dd) (S : ma_S) (T : Nat) : af_e D S T ≤ T ∧ (∀ k, k < af_e D S T → sp_act (af_q D S k) (D k) = some (af_q D S (k + 1))) ∧ (af_e D S T < T → sp_act (af_q D S (af_e D S T)) (D (af_e D S T)) = none) := by
  have f := ma_fi_sp (fun k => (sp_act (af_q D S k) (D k)).isNone) T 0
  unfold af_e
  generalize ma_fi (fun k => (sp_act (af_q D S k) (D k)).isNone) T 0 = r at *
  refine ⟨by omega, fun k hk => ?_, fun hk => ?_⟩
  · have := f.2.2.1 k (by omega) hk
    show _ = some ((sp_act (af_q D S k) (D k)).getD (af_q D S k))
    cases e : sp_act (af_q D S k) (D k) with
    | none => rw [e] at this; exact absurd this (by decide)
    | some x => rfl
  · have := f.2.2.2 (by omega)
    cases e : sp_act (af_q D S r) (D r) with
    | none => rfl
    | some x => rw [e] at this; exact absurd this (by simp)
theorem af_SO {D : Nat → ma_dd} {S : ma_S} {Y : ma_Y} {T : Nat} (hd : ∀ j, j < T → ma_dr (D j) (Y.2 j)) (O : ma_SO S) : ∀ k, k ≤ T → ma_SO (af_q D S k)
  | 0, _ => O
  | k + 1, hk => by
    have ih := af_SO hd O k (by omega)
    show ma_SO ((sp_act (af_q D S k) (D k)).getD (af_q D S k))
    cases e : sp_act (af_q D S k) (D k) with
    | none => exact ih
    | some x => exact ma_SO_act (hd k (by omega)) ih e
def af_s (K : ma_K) (i : Nat) : Nat := ma_fo (fun m a => a + sp_on (K i m)) 6 0
theorem af_fo_le {f g : Nat → Nat} (h : ∀ m, f m ≤ g m) : ∀ n, ma_fo (fun m a => a + f m) n 0 ≤ ma_fo (fun m a => a + g m) n 0
  | 0 => Nat.le_refl _
  | n + 1 => by
    have := af_fo_le h n
    have := h n
    show ma_fo (fun m a => a + f m) n 0 + f n ≤ ma_fo (fun m a => a + g m) n 0 + g n
    omega
theorem af_fo_ge {f : Nat → Nat} {n : Nat} (h : ∀ m, n ≤ m → f m = 0) : ∀ d, ma_fo (fun m a => a + f m) (n + d) 0 = ma_fo (fun m a => a + f m) n 0
  | 0 => rfl
  | d + 1 => by
    show ma_fo (fun m a => a + f m) (n + d) 0 + f (n + d) = _
    rw [af_fo_ge h d, h (n + d) (by omega)]
    rfl
theorem af_fo_b {f : Nat → Nat} (h : ∀ m, f m ≤ 6) : ∀ n, ma_fo (fun m a => a + f m) n 0 ≤ 6 * n
  | 0 => Nat.le_refl _
  | n + 1 => by
    have := af_fo_b h n
    have := h n
    show ma_fo (fun m a => a + f m) n 0 + f n ≤ _
    omega
theorem af_s_b (K : ma_K) (i : Nat) : af_s K i ≤ 36 := af_fo_b (fun m => sp_on_le (K i m)) 6
theorem af_s_n {K : ma_K} {i n : Nat} (h : ∀ m, n ≤ m → K i m = 0) (hn : n ≤ 6) : ma_fo (fun m a => a + sp_on (K i m)) n 0 = af_s K i := by
  have := af_fo_ge (f := fun m => sp_on (K i m)) (n := n) (fun m hm => by rw [h m hm]; decide) (6 - n)
  rw [show n + (6 - n) = 6 by omega] at this
  exact this.symm
theorem af_cl : ∀ x, x < 64 → ∀ t, t < 6 → sp_on (sp_cl x t) ≤ sp_on x := by decide +kernel
/-- what a deed leaves -/
theorem af_act {S S2 : ma_S} {d : ma_dd} {v : Nat → Int32} (hd : ma_dr d v) (O : ma_SO S) (e : sp_act S d = some S2) : (d.1 ≠ 0 → af_s S2.1 2 ≤ af_s S.1 2) ∧ (d.1 ≠ 2 → af_s S2.1 5 ≤ af_s S.1 5) ∧ (d.1 = 6 → S2.2.2.1 = S.2.2.1) ∧ S2.1 0 1 = S.1 0 1 := by
  have le : ∀ i, (∀ m, S2.1 i m = S.1 i m) → af_s S2.1 i ≤ af_s S.1 i := fun i q => af_fo_le (fun m => by rw [q m]; exact Nat.le_refl _) 6
  have un : ∀ i k v a b, a ≠ i → sp_up S.1 i k v a b = S.1 a b := fun i k v a b z => sp_up_n (.inl z)
  unfold sp_act at e
  split at e
  · split at e
    · cases e
      refine ⟨fun q => by omega, fun _ => le 5 (fun m => un 2 d.2.1 (S.1 2 d.2.1 ||| 2 ^ d.2.2.1) 5 m (by decide)), fun q => by omega, un 2 d.2.1 (S.1 2 d.2.1 ||| 2 ^ d.2.2.1) 0 1 (by decide)⟩
    · cases e
  · split at e
    · split at e
      · cases e
        refine ⟨fun _ => ?_, fun _ => le 5 (fun m => un 2 d.2.1 (sp_cl (S.1 2 d.2.1) d.2.2.1) 5 m (by decide)), fun q => by omega, un 2 d.2.1 (sp_cl (S.1 2 d.2.1) d.2.2.1) 0 1 (by decide)⟩
        refine af_fo_le (fun m => ?_) 6
        dsimp only
        by_cases c : m = d.2.1
        · rw [c, sp_up_s]
          exact af_cl _ (O.1.2.2.1 _).2.1 _ (hd.2.2.2.1 (by omega)).2
        · rw [sp_up_n (.inr c)]; exact Nat.le_refl _
      · cases e
    · split at e
      · split at e
        · cases e
          refine ⟨fun _ => le 2 (fun m => un 5 d.2.1 (S.1 5 d.2.1 ||| 2 ^ d.2.2.1) 2 m (by decide)), fun q => by omega, fun q => by omega, un 5 d.2.1 (S.1 5 d.2.1 ||| 2 ^ d.2.2.1) 0 1 (by decide)⟩
        · cases e
      · split at e
        · split at e
          · cases e
            exact ⟨fun _ => le 2 (fun m => un 6 (6 * d.2.1 + d.2.2.1) (min 9 (S.1 6 (6 * d.2.1 + d.2.2.1) + d.2.2.2)) 2 m (by decide)), fun _ => le 5 (fun m => un 6 (6 * d.2.1 + d.2.2.1) (min 9 (S.1 6 (6 * d.2.1 + d.2.2.1) + d.2.2.2)) 5 m (by decide)), fun q => by omega, un 6 (6 * d.2.1 + d.2.2.1) (min 9 (S.1 6 (6 * d.2.1 + d.2.2.1) + d.2.2.2)) 0 1 (by decide)⟩
          · cases e
        · split at e
          · split at e
            · cases e
              exact ⟨fun _ => le 2 (fun m => un 4 d.2.1 0 2 m (by decide)), fun _ => le 5 (fun m => un 4 d.2.1 0 5 m (by decide)), fun q => by omega, un 4 d.2.1 0 0 1 (by decide)⟩
            · cases e
          · split at e
            · cases e
              exact ⟨fun _ => Nat.le_refl _, fun _ => Nat.le_refl _, fun q => by omega, rfl⟩
            · split at e
              · cases e
                have y : ∀ i m, i ≠ 3 → i ≠ 4 → sp_yr S.1 (S.1 0 1) i m = S.1 i m := fun i m p q => by
                  unfold sp_yr; rw [if_neg (fun z => p z.1), if_neg (fun z => q z.1)]
                exact ⟨fun _ => le 2 (fun m => y 2 m (by decide) (by decide)), fun _ => le 5 (fun m => y 5 m (by decide) (by decide)), fun _ => rfl, y 0 1 (by decide) (by decide)⟩
              · cases e
def af_G (D : Nat → ma_dd) (S : ma_S) (k : Nat) : Nat := (af_q D S k).2.2.1
def af_bg (D : Nat → ma_dd) (S : ma_S) (k : Nat) : Nat := ma_fo (fun j a => if a = 0 ∧ af_G D S (j + 1) < 6 then j + 1 else a) k 0
def af_ch (D : Nat → ma_dd) (S : ma_S) (k : Nat) : Nat := ma_fo (fun j a => if af_G D S (j + 1) = af_G D S j then a else a + 1) k 0
def af_re (D : Nat → ma_dd) (S : ma_S) (m k : Nat) : Nat := ma_fo (fun j a => if (D j).1 = 6 ∧ af_G D S j = m then a + 1 else a) k 0
def af_tu (D : Nat → ma_dd) (S : ma_S) (c k : Nat) : Nat := ma_fo (fun j a => if sp_to (af_q D S (j + 1)).1 c = sp_to (af_q D S j).1 c then a else a + 1) k 0
def af_gn (D : Nat → ma_dd) (S : ma_S) (i k : Nat) : Nat := ma_fo (fun j a => if af_s (af_q D S j).1 i < af_s (af_q D S (j + 1)).1 i then a + 1 else a) k 0
section
variable {D : Nat → ma_dd} {S : ma_S}
theorem af_bg_s (k : Nat) : af_bg D S (k + 1) = if af_bg D S k = 0 ∧ af_G D S (k + 1) < 6 then k + 1 else af_bg D S k := rfl
theorem af_ch_s (k : Nat) : af_ch D S (k + 1) = if af_G D S (k + 1) = af_G D S k then af_ch D S k else af_ch D S k + 1 := rfl
theorem af_re_s (m k : Nat) : af_re D S m (k + 1) = if (D k).1 = 6 ∧ af_G D S k = m then af_re D S m k + 1 else af_re D S m k := rfl
theorem af_tu_s (c k : Nat) : af_tu D S c (k + 1) = if sp_to (af_q D S (k + 1)).1 c = sp_to (af_q D S k).1 c then af_tu D S c k else af_tu D S c k + 1 := rfl
theorem af_gn_s (i k : Nat) : af_gn D S i (k + 1) = if af_s (af_q D S k).1 i < af_s (af_q D S (k + 1)).1 i then af_gn D S i k + 1 else af_gn D S i k := rfl
theorem af_bg_le : ∀ k, af_bg D S k ≤ k
  | 0 => Nat.le_refl _
  | k + 1 => by have := af_bg_le k; rw [af_bg_s]; split <;> omega
theorem af_ch_le : ∀ k, af_ch D S k ≤ k
  | 0 => Nat.le_refl _
  | k + 1 => by have := af_ch_le k; rw [af_ch_s]; split <;> omega
theorem af_re_le (m : Nat) : ∀ k, af_re D S m k ≤ k
  | 0 => Nat.le_refl _
  | k + 1 => by have := af_re_le m k; rw [af_re_s]; split <;> omega
theorem af_tu_le (c : Nat) : ∀ k, af_tu D S c k ≤ k
  | 0 => Nat.le_refl _
  | k + 1 => by have := af_tu_le c k; rw [af_tu_s]; split <;> omega
theorem af_gn_le (i : Nat) : ∀ k, af_gn D S i k ≤ k
  | 0 => Nat.le_refl _
  | k + 1 => by have := af_gn_le i k; rw [af_gn_s]; split <;> omega
theorem af_bg_k {j : Nat} (h : af_bg D S j ≠ 0) : ∀ d, af_bg D S (j + d) = af_bg D S j
  | 0 => rfl
  | d + 1 => by
    rw [← Nat.add_assoc, af_bg_s, af_bg_k h d, if_neg (fun q => h q.1)]
end
/-- who has the most: his number + 1, how many -/
def af_mo (f : Nat → Nat) : Nat × Nat := ma_fo (fun j a => if a.2 < f j then (j + 1, f j) else a) 6 (0, 0)
abbrev af_L : List Nat := [201, 202, 203, 204, 205, 206, 207, 208, 209, 210, 211]
section
variable {h : pb_HP} {N T l : Nat} {Y : ma_Y} {D : Nat → ma_dd} {S : ma_S} {f : Nat → Nat}
theorem c_46 (H : ma_H h) (e : ∀ j, j < 6 → pb_I h 210 j = nI (f j)) (hf : ∀ j, j < 6 → f j ≤ 40) (hN : 3000 < N) : f_46 N h 200 = some (mI (af_mo f).1) := by
  have hl : pb_wl (f_46_6s N h 200) N (0, (-1), 0) = some (mI (af_mo f).1) := by
    refine ma_lp (fun j a => (nI a.2, mI a.1, nI j)) (fun j a => if a.2 < f j then (j + 1, f j) else a) (fun j a => a.2 ≤ 40 ∧ a.1 ≤ 6) 6 (a0 := (0, 0)) (by omega) ⟨by decide, by decide⟩ rfl (fun j a hj ha => ⟨?_, ?_⟩) ?_
    · have := hf j hj
      split
      · exact ⟨this, by dsimp only; omega⟩
      · exact ha
    · have e1 : ¬ (6 : Int32) ≤ nI j := nI_ge (b := 6) hj (by decide)
      have := hf j hj
      simp only [f_46_6s, if_neg e1, if_pos (mi_200 H), mr_200_2 H, Option.bind_some, if_pos (mx_210 H hj), nI_clamp (show j < 2 ^ 31 by omega), e j hj, nI_leI (show f j < 2 ^ 31 by omega) (show a.2 < 2 ^ 31 by omega), nI_1]
      by_cases c : a.2 < f j
      · rw [if_neg (show ¬ f j ≤ a.2 by omega), if_pos c, mI_s]
      · rw [if_pos (show f j ≤ a.2 by omega), if_neg c]
    · intro _
      have e1 : (6 : Int32) ≤ nI 6 := by decide
      simp only [f_46_6s, if_pos e1]
      rfl
  unfold f_46
  rw [hl]
  rfl
/-- a step of the walk on the developers' side -/
theorem af_step (hd : ∀ j, j < T → ma_dr (D j) (Y.2 j)) (eT : T = Y.1) (hY : Y.1 ≤ 40) (O : ma_SO S) (hN : 3000 < N) {k : Nat} (hk : k ≤ af_e D S T) (H : ma_H h) (C : ma_C h (af_q D S k)) (L : ma_L h l 40 3 Y) : (k < af_e D S T ∧ (∃ g, f_30 N h 200 l (nI k) = some (1, g) ∧ ma_fr ma_cL ma_cF h g ∧ ma_C g (af_q D S (k + 1))) ∧ ¬ pb_I h l 0 ≤ nI k) ∨ (k = af_e D S T ∧ f_30 N h 200 l (nI k) = some (0, h) ∧ ¬ pb_I h l 0 ≤ nI k) ∨ (k = af_e D S T ∧ pb_I h l 0 ≤ nI k) := by
  have b := af_e_b D S T
  have SO := af_SO hd O k (by omega)
  rw [L.2.1, ← eT]
  rcases Nat.lt_or_ge k T with c | c
  · have nl : ¬ nI T ≤ nI k := nI_ge c (by omega)
    have z := c_30 (N := N) H C SO L hY (show k < Y.1 by omega) (hd k c) hN
    rcases Nat.lt_or_ge k (af_e D S T) with c2 | c2
    · exact .inl ⟨c2, z.2 _ (b.2.1 k c2), nl⟩
    · have e : k = af_e D S T := by omega
      exact .inr (.inl ⟨e, z.1 (by rw [e]; exact b.2.2 (by omega)), nl⟩)
  · exact .inr (.inr ⟨by omega, nI_le c (by omega)⟩)
theorem af_fr1 {g : pb_HP} (f : ma_fr ma_cL ma_cF h g) : ma_fr af_L ma_cF h g := ma_fr_w f (by decide) (by decide)
theorem af_Lk {g : pb_HP} (L : ma_L h l 40 3 Y) (hl : l ≤ 40) (f : ma_fr af_L ma_cF h g) : ma_L g l 40 3 Y := ma_L_e L (fun o a b => ma_fr_o f (by simp; omega) (by simp; omega))
theorem af_q2 {g : pb_HP} (f : ma_fr af_L ma_cF h g) : ma_q h g := ⟨f.1, f.2.1, fun o ho => funext fun k => f.2.2 o k (fun z => by revert z; simp; omega) (fun z => by revert z; simp; omega)⟩
theorem c_42 (hd : ∀ j, j < T → ma_dr (D j) (Y.2 j)) (eT : T = Y.1) (hY : Y.1 ≤ 40) (O : ma_SO S) (hl : l ≤ 40) (H : ma_H h) (C : ma_C h S) (L : ma_L h l 40 3 Y) (hN : 3000 < N) : ∃ g, f_42 N h 200 l = some (mI (af_bg D S (af_e D S T)), g) ∧ ma_fr af_L ma_cF h g := by
  have b := af_e_b D S T
  have lp : ∃ x, pb_wl (f_42_2s N 200 l) N (0, h) = some x ∧ ∃ g, ma_fr af_L ma_cF h g ∧ ((∃ j, x = .inl (nI j, g) ∧ af_bg D S (af_e D S T) = j + 1) ∨ (x = .inr g ∧ af_bg D S (af_e D S T) = 0)) := by
    refine ma_lh (fun j s => s.1 = nI j ∧ ma_fr af_L ma_cF h s.2 ∧ ma_C s.2 (af_q D S j) ∧ af_bg D S j = 0) _ (af_e D S T) 0 N _ (by omega) (by omega) ⟨rfl, ma_fr_r _ _ _, C, rfl⟩ ?_ ?_
    · rintro j ⟨y, g⟩ _ hj ⟨hy, fg, Cg, bj⟩
      dsimp only at hy fg Cg bj
      subst hy
      have Hg := ma_H_fr H fg
      have Lg := af_Lk L hl fg
      rcases af_step (N := N) hd eT hY O hN (show j ≤ af_e D S T by omega) Hg Cg Lg with ⟨_, ⟨g1, a1, a2, a3⟩, nl⟩ | ⟨q, _⟩ | ⟨q, _⟩
      · have H1 := ma_H_fr Hg a2
        have f1 := ma_fr_t fg (af_fr1 a2)
        have g5 : pb_I g1 200 5 = nI (af_G D S (j + 1)) := a3.2.2.1
        have SO := af_SO hd O (j + 1) (by omega)
        have g6 : af_G D S (j + 1) ≤ 6 := SO.2.2.1
        by_cases c : af_G D S (j + 1) = 6
        · left
          refine ⟨(nI (j + 1), g1), ?_, rfl, f1, a3, ?_⟩
          · simp only [f_42_2s, if_pos (wl_is Hg Lg), if_neg nl, if_pos (mi_200 Hg), a1, Option.bind_some, i10, if_false, if_pos (mi_200 H1), g5, if_pos (show nI (af_G D S (j + 1)) = 6 by rw [c]; rfl), nI_1]
          · rw [af_bg_s, if_neg (by omega)]; exact bj
        · right
          refine ⟨.inl (nI j, g1), ?_, g1, f1, .inl ⟨j, rfl, ?_⟩⟩
          · simp only [f_42_2s, if_pos (wl_is Hg Lg), if_neg nl, if_pos (mi_200 Hg), a1, Option.bind_some, i10, if_false, if_pos (mi_200 H1), g5, if_neg (fun z => c ((lE6 (show af_G D S (j + 1) < 2 ^ 31 by omega)).mp z))]
          · have e : af_bg D S (j + 1) = j + 1 := by rw [af_bg_s, if_pos ⟨bj, by omega⟩]
            have := af_bg_k (D := D) (S := S) (j := j + 1) (by omega) (af_e D S T - (j + 1))
            rw [show j + 1 + (af_e D S T - (j + 1)) = af_e D S T by omega] at this
            rw [this, e]
      · omega
      · omega
    · rintro ⟨y, g⟩ ⟨hy, fg, Cg, bj⟩
      dsimp only at hy fg Cg bj
      subst hy
      have Hg := ma_H_fr H fg
      have Lg := af_Lk L hl fg
      rcases af_step (N := N) hd eT hY O hN (Nat.le_refl _) Hg Cg Lg with ⟨q, _⟩ | ⟨_, a1, nl⟩ | ⟨_, le⟩
      · omega
      · refine ⟨.inr g, ?_, g, fg, .inr ⟨rfl, bj⟩⟩
        simp only [f_42_2s, if_pos (wl_is Hg Lg), if_neg nl, if_pos (mi_200 Hg), a1, Option.bind_some, if_true]
      · refine ⟨.inr g, ?_, g, fg, .inr ⟨rfl, bj⟩⟩
        simp only [f_42_2s, if_pos (wl_is Hg Lg), if_pos le]
  obtain ⟨x, x1, g, fg, x2⟩ := lp
  refine ⟨g, ?_, fg⟩
  unfold f_42
  rw [x1, Option.bind_some]
  rcases x2 with ⟨j, rfl, e⟩ | ⟨rfl, e⟩
  · rw [e, mI_s]
  · rw [e]; rfl
theorem c_43 (hd : ∀ j, j < T → ma_dr (D j) (Y.2 j)) (eT : T = Y.1) (hY : Y.1 ≤ 40) (O : ma_SO S) (hl : l ≤ 40) (H : ma_H h) (C : ma_C h S) (L : ma_L h l 40 3 Y) (hN : 3000 < N) : ∃ g, f_43 N h 200 l = some (nI (af_ch D S (af_e D S T)), g) ∧ ma_fr af_L ma_cF h g := by
  have b := af_e_b D S T
  have lp : ∃ x, pb_wl (f_43_10s N 200 l) N (0, nI (af_G D S 0), 0, h) = some x ∧ (x.1 = nI (af_ch D S (af_e D S T)) ∧ ma_fr af_L ma_cF h x.2) := by
    refine ma_lh (fun j s => s.1 = nI (af_ch D S j) ∧ s.2.1 = nI (af_G D S j) ∧ s.2.2.1 = nI j ∧ ma_fr af_L ma_cF h s.2.2.2 ∧ ma_C s.2.2.2 (af_q D S j)) _ (af_e D S T) 0 N _ (by omega) (by omega) ⟨rfl, rfl, rfl, ma_fr_r _ _ _, C⟩ ?_ ?_
    · rintro j ⟨y1, y2, y3, g⟩ _ hj ⟨h1, h2, h3, fg, Cg⟩
      dsimp only at h1 h2 h3 fg Cg
      subst h1 h2 h3
      have Hg := ma_H_fr H fg
      have Lg := af_Lk L hl fg
      rcases af_step (N := N) hd eT hY O hN (show j ≤ af_e D S T by omega) Hg Cg Lg with ⟨_, ⟨g1, a1, a2, a3⟩, nl⟩ | ⟨q, _⟩ | ⟨q, _⟩
      · have H1 := ma_H_fr Hg a2
        have f1 := ma_fr_t fg (af_fr1 a2)
        have g5 : pb_I g1 200 5 = nI (af_G D S (j + 1)) := a3.2.2.1
        have g6 : af_G D S (j + 1) ≤ 6 := (af_SO hd O (j + 1) (by omega)).2.2.1
        have g7 : af_G D S j ≤ 6 := (af_SO hd O j (by omega)).2.2.1
        left
        by_cases c : af_G D S (j + 1) = af_G D S j
        · refine ⟨(nI (af_ch D S j), nI (af_G D S j), nI (j + 1), g1), ?_, ?_, ?_, rfl, f1, a3⟩
          · simp only [f_43_10s, if_pos (wl_is Hg Lg), if_neg nl, if_pos (mi_200 Hg), a1, Option.bind_some, i10, if_false, if_pos (mi_200 H1), g5, c, if_true, nI_1]
          · dsimp only; rw [af_ch_s, if_pos c]
          · dsimp only; rw [c]
        · refine ⟨(nI (af_ch D S j + 1), nI (af_G D S (j + 1)), nI (j + 1), g1), ?_, ?_, rfl, rfl, f1, a3⟩
          · simp only [f_43_10s, if_pos (wl_is Hg Lg), if_neg nl, if_pos (mi_200 Hg), a1, Option.bind_some, i10, if_false, if_pos (mi_200 H1), g5, if_neg (fun z => c ((nI_eq (show af_G D S (j + 1) < 2 ^ 31 by omega) (show af_G D S j < 2 ^ 31 by omega)).mp z)), nI_1]
          · dsimp only; rw [af_ch_s, if_neg c]
      · omega
      · omega
    · rintro ⟨y1, y2, y3, g⟩ ⟨h1, h2, h3, fg, Cg⟩
      dsimp only at h1 h2 h3 fg Cg
      subst h1 h2 h3
      have Hg := ma_H_fr H fg
      have Lg := af_Lk L hl fg
      rcases af_step (N := N) hd eT hY O hN (Nat.le_refl _) Hg Cg Lg with ⟨q, _⟩ | ⟨_, a1, nl⟩ | ⟨_, le⟩
      · omega
      · refine ⟨(nI (af_ch D S (af_e D S T)), g), ?_, rfl, fg⟩
        simp only [f_43_10s, if_pos (wl_is Hg Lg), if_neg nl, if_pos (mi_200 Hg), a1, Option.bind_some, if_true]
      · refine ⟨(nI (af_ch D S (af_e D S T)), g), ?_, rfl, fg⟩
        simp only [f_43_10s, if_pos (wl_is Hg Lg), if_pos le]
  obtain ⟨⟨r, g⟩, x1, x2, x3⟩ := lp
  dsimp only at x2 x3
  subst x2
  refine ⟨g, ?_, x3⟩
  have e5 : pb_I h 200 5 = nI (af_G D S 0) := C.2.2.1
  unfold f_43
  rw [if_pos (mi_200 H), e5, x1]
  rfl
theorem c_44 (hd : ∀ j, j < T → ma_dr (D j) (Y.2 j)) (eT : T = Y.1) (hY : Y.1 ≤ 40) (O : ma_SO S) (hl : l ≤ 40) (H : ma_H h) (C : ma_C h S) (L : ma_L h l 40 3 Y) (hN : 3000 < N) : ∃ g, f_44 N h 200 l = some (mI (af_mo (fun m => af_re D S m (af_e D S T))).1, g) ∧ ma_fr af_L ma_cF h g := by
  have b := af_e_b D S T
  obtain ⟨h0, z1, z2, z3⟩ := c_306 (N := N) (h := h) (o := 210) (n := 6) H.1 (by decide) (by decide) (by decide) 0 hN
  have H0 := ma_H_fr H z2
  have f0 : ma_fr af_L ma_cF h h0 := ma_fr_w z2 (by decide) (by decide)
  have C0 : ma_C h0 S := ⟨ma_V_e C.1 (fun o a b => ma_fr_o z2 (by simp; omega) (by simp)), by rw [ma_fr_o z2 (by decide) (by decide)]; exact C.2⟩
  have lp : ∃ x, pb_wl (f_44_10s N 200 l) N (0, h0) = some x ∧ (ma_fr af_L ma_cF h x ∧ ∀ m, m < 6 → pb_I x 210 m = nI (af_re D S m (af_e D S T))) := by
    refine ma_lh (fun j s => s.1 = nI j ∧ ma_fr af_L ma_cF h s.2 ∧ ma_C s.2 (af_q D S j) ∧ ∀ m, m < 6 → pb_I s.2 210 m = nI (af_re D S m j)) _ (af_e D S T) 0 N _ (by omega) (by omega) ⟨rfl, f0, C0, fun m hm => z3 m hm⟩ ?_ ?_
    · rintro j ⟨y, g⟩ _ hj ⟨hy, fg, Cg, bj⟩
      dsimp only at hy fg Cg bj
      subst hy
      have Hg := ma_H_fr H fg
      have Lg := af_Lk L hl fg
      rcases af_step (N := N) hd eT hY O hN (show j ≤ af_e D S T by omega) Hg Cg Lg with ⟨_, ⟨g1, a1, a2, a3⟩, nl⟩ | ⟨q, _⟩ | ⟨q, _⟩
      · have H1 := ma_H_fr Hg a2
        have f1 := ma_fr_t fg (af_fr1 a2)
        have L1 := af_Lk L hl f1
        have g5 : pb_I g1 200 5 = nI (af_G D S (j + 1)) := a3.2.2.1
        have SO := af_SO hd O (j + 1) (by omega)
        have g6 : af_G D S (j + 1) ≤ 6 := SO.2.2.1
        have k1 : pb_I g1 (l + 1) j = nI (D j).1 := ((L1.2.2.2 j (by omega)).1).trans (hd j (by omega)).1
        have d6 := (hd j (by omega)).2.1
        have ac := af_act (hd j (by omega)) (af_SO hd O j (by omega)) (b.2.1 j hj)
        have e1 : pb_I g1 210 = pb_I g 210 := ma_fr_o a2 (by decide) (by decide)
        have xx := wl_x1 H1 L1.1 (by decide) (show j < 40 by omega)
        left
        by_cases c : (D j).1 = 6
        · have eg : af_G D S (j + 1) = af_G D S j := ac.2.2.1 c
          by_cases c6 : af_G D S (j + 1) = 6
          · refine ⟨(nI (j + 1), g1), ?_, rfl, f1, a3, fun m hm => ?_⟩
            · simp only [f_44_10s, if_pos (wl_is Hg Lg), if_neg nl, if_pos (mi_200 Hg), a1, Option.bind_some, i10, if_false, if_pos (wl_is H1 L1), wl_r1 H1 L1.1, if_pos xx, nI_clamp (show j < 2 ^ 31 by omega), k1, if_neg (not_not_intro (show nI (D j).1 = 6 by rw [c]; rfl)), if_pos (mi_200 H1), g5, if_pos (show nI (af_G D S (j + 1)) = 6 by rw [c6]; rfl), nI_1]
            · show pb_I g1 210 m = _
              rw [e1, bj m hm, af_re_s, if_neg (by omega)]
          · have x2 : pb_ar g1 210 12 (nI (af_G D S (j + 1))) := mx_210 H1 (by omega)
            have kk : pb_I g1 210 (af_G D S (j + 1)) = nI (af_re D S (af_G D S (j + 1)) j) := by rw [e1]; exact bj _ (by omega)
            refine ⟨(nI (j + 1), pb_pI g1 210 (af_G D S (j + 1)) (nI (af_re D S (af_G D S (j + 1)) j + 1))), ?_, rfl, ma_fr_pI f1 (.inl (by decide)) _, ⟨ma_V_o a3.1 (.inr (by decide)) _ _, ?_⟩, fun m hm => ?_⟩
            · simp only [f_44_10s, if_pos (wl_is Hg Lg), if_neg nl, if_pos (mi_200 Hg), a1, Option.bind_some, i10, if_false, if_pos (wl_is H1 L1), wl_r1 H1 L1.1, if_pos xx, nI_clamp (show j < 2 ^ 31 by omega), k1, if_neg (not_not_intro (show nI (D j).1 = 6 by rw [c]; rfl)), if_pos (mi_200 H1), g5, if_neg (fun z => c6 ((lE6 (show af_G D S (j + 1) < 2 ^ 31 by omega)).mp z)), mr_200_2 H1, if_pos x2, nI_clamp (show af_G D S (j + 1) < 2 ^ 31 by omega), kk, nI_1]
            · dsimp only; rw [ma_I_pI, if_neg (by decide)]; exact a3.2
            · show pb_I (pb_pI g1 210 _ _) 210 m = _
              rw [ma_Ik, if_pos rfl, af_re_s]
              by_cases q : m = af_G D S (j + 1)
              · rw [if_pos q, if_pos ⟨c, by omega⟩, q]
              · rw [if_neg q, if_neg (by omega), e1]; exact bj m hm
        · refine ⟨(nI (j + 1), g1), ?_, rfl, f1, a3, fun m hm => ?_⟩
          · simp only [f_44_10s, if_pos (wl_is Hg Lg), if_neg nl, if_pos (mi_200 Hg), a1, Option.bind_some, i10, if_false, if_pos (wl_is H1 L1), wl_r1 H1 L1.1, if_pos xx, nI_clamp (show j < 2 ^ 31 by omega), k1, if_pos (show ¬ nI (D j).1 = 6 from fun z => c ((lE6 (show (D j).1 < 2 ^ 31 by omega)).mp z)), nI_1]
          · show pb_I g1 210 m = _
            rw [e1, bj m hm, af_re_s, if_neg (fun q => c q.1)]
      · omega
      · omega
    · rintro ⟨y, g⟩ ⟨hy, fg, Cg, bj⟩
      dsimp only at hy fg Cg bj
      subst hy
      have Hg := ma_H_fr H fg
      have Lg := af_Lk L hl fg
      rcases af_step (N := N) hd eT hY O hN (Nat.le_refl _) Hg Cg Lg with ⟨q, _⟩ | ⟨_, a1, nl⟩ | ⟨_, le⟩
      · omega
      · refine ⟨g, ?_, fg, bj⟩
        simp only [f_44_10s, if_pos (wl_is Hg Lg), if_neg nl, if_pos (mi_200 Hg), a1, Option.bind_some, if_true]
      · refine ⟨g, ?_, fg, bj⟩
        simp only [f_44_10s, if_pos (wl_is Hg Lg), if_pos le]
  obtain ⟨g, x1, x2, x3⟩ := lp
  have Hg := ma_H_fr H x2
  refine ⟨g, ?_, x2⟩
  unfold f_44 f_44_66
  rw [if_pos (mi_200 H), mr_200_2 H, Option.bind_some, z1, Option.bind_some, x1, Option.bind_some, if_pos (mi_200 Hg), c_46 Hg x3 (fun j _ => by have := af_re_le (D := D) (S := S) j (af_e D S T); omega) hN]
  rfl
end
